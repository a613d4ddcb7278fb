set_option maxHeartbeats 4000000 in
set_option maxRecDepth 100000 in
theorem x_X11_init_l84 {d : Nat} {t0 : Nat} {r : ab_HP} (ht0 : (ab_shp t0).1 = 0) : ∀ (n : Nat) (i1 : Int32) (h : ab_HP) (c s : Nat), c + n * 2 + 0 ≤ 32 → s + n * 104 + 0 ≤ 1541 →  f_X11_init_l84 t0 n i1 h = some r → ab_T mX11_init (d + 2) 32 1541 c s 84 [some (va_rf (some t0)), some (.int i1)] [] h (ab_Pv r) := by
  intro n
  induction n with
  | zero =>
    intro i1 h c s hc hs hf
    rw [f_X11_init_l84] at hf
    cases hf
  | succ n ih =>
    intro i1 h c s hc hs hf
    rw [f_X11_init_l84] at hf
    refine ab_iload_n (pc2 := 85) dX11_init_84 rfl rfl ?_
    refine ab_aload_n (x := _) (pc2 := 86) dX11_init_85 rfl rfl ?_
    refine ab_getR (pc2 := 89) rfl ht0 fa_X11_31 dX11_init_86 rfl (fun T29 => ?_)
    obtain ⟨q30, hq30, hf⟩ := ab_bind hf
    refine ab_alen (pc2 := 90) hq30 (Or.inr (Or.inr (T29 q30 hq30))) dX11_init_89 rfl ?_
    refine ab_icmp_ge (tgt := 112) (pc2 := 93) dX11_init_90 (by decide) rfl hf (fun c31 hf => ?_) (fun c31 hf => ?_)
    · cases Option.some.inj hf
      exact ab_retV dX11_init_112 rfl (by omega) (by omega) ⟨rfl, rfl⟩
    · refine ab_aload_n (x := _) (pc2 := 94) dX11_init_93 rfl rfl ?_
      refine ab_getR (pc2 := 97) rfl ht0 fa_X11_31 dX11_init_94 rfl (fun T32 => ?_)
      refine ab_iload_n (pc2 := 98) dX11_init_97 rfl rfl ?_
      obtain ⟨b33, hf⟩ := ab_guard hf
      have hf := ab_let_e hf
      refine ab_new (pc2 := 101) nf_X11_29 b33 (by omega) (by omega) dX11_init_98 rfl ?_
      refine ab_dup (pc2 := 102) dX11_init_101 rfl (ab_rf1 _) ?_
      obtain ⟨w35, ew35, hf⟩ := ab_bind hf
      refine ab_callIN (pc2 := 105) (st := [_, _, _]) (m_X6_init (d := (d + 0)) b33 ew35) mf_X6_init rfl rfl tn_X11_45 tw_14 dX11_init_102 rfl (by omega) (by omega) (by omega) rfl (Nat.le_of_ble_eq_true rfl) (fun v u hp => ?_)
      obtain ⟨rfl, rfl⟩ := hp
      show ab_T _ _ _ _ ((c + 1) + 1) ((s + 4) + 100) 105 _ ([_, _, _]) _ _
      obtain ⟨q36, hq36, hf⟩ := ab_bind hf
      obtain ⟨b37, hf⟩ := ab_guard hf
      have hf := ab_let_e hf
      refine ab_aast (pc2 := 106) hq36 (T32 q36 hq36) (Or.inr rfl) (ab_ty1 b33) (ab_in_vp b37) dX11_init_105 rfl ?_
      refine ab_iinc (pc2 := 109) (v := _ + 1) (lo2 := [some (va_rf _), some (.int _)]) dX11_init_106 rfl rfl rfl (by decide) rfl ?_
      refine ab_goto (tgt := 84) dX11_init_109 (by decide) ?_
      exact ab_weak (ih _ _ _ _ (by omega) (by omega) hf) (ab_leS (ab_leS ab_le0))
set_option maxHeartbeats 4000000 in
set_option maxRecDepth 100000 in
theorem x_X11_init {d : Nat} {t0 : Nat} {h : ab_HP} {r : ab_HP} (ht0 : (ab_shp t0).1 = 0) (hf : f_X11_init t0 h = some r) : ab_T mX11_init (d + 2) 32 1541 0 0 0 [some (va_rf (some t0)), none] [] h (ab_Pv r) := by
  unfold f_X11_init at hf
  refine ab_aload_n (x := _) (pc2 := 1) dX11_init_0 rfl rfl ?_
  refine ab_objInit (pc2 := 4) rfl tw_10 tw_4 tw_obj (by omega) (Nat.le_of_ble_eq_true rfl) dX11_init_1 rfl ?_
  refine ab_aload_n (x := _) (pc2 := 5) dX11_init_4 rfl rfl ?_
  obtain ⟨b1, hf⟩ := ab_guard hf
  have hf := ab_let_e hf
  refine ab_new (pc2 := 8) nf_X11_7 b1 (by omega) (by omega) dX11_init_5 rfl ?_
  refine ab_dup (pc2 := 9) dX11_init_8 rfl (ab_rf1 _) ?_
  obtain ⟨w3, ew3, hf⟩ := ab_bind hf
  refine ab_callIN (pc2 := 12) (st := [_, _]) (m_X9_init (d := (d + 0)) b1 ew3) mf_X9_init rfl rfl tn_X11_9 tw_11 dX11_init_9 rfl (by omega) (by omega) (by omega) rfl (Nat.le_of_ble_eq_true rfl) (fun v u hp => ?_)
  obtain ⟨rfl, rfl⟩ := hp
  show ab_T _ _ _ _ ((0 + 1) + 1) ((0 + 8) + 8) 12 _ ([_, _]) _ _
  have hf := ab_let_e hf
  refine ab_putR (pc2 := 15) rfl ht0 fa_X11_10 (ab_ty1 b1) (fun _ => rfl) dX11_init_12 rfl ?_
  refine ab_aload_n (x := _) (pc2 := 16) dX11_init_15 rfl rfl ?_
  obtain ⟨b5, hf⟩ := ab_guard hf
  have hf := ab_let_e hf
  refine ab_new (pc2 := 19) nf_X11_7 b5 (by omega) (by omega) dX11_init_16 rfl ?_
  refine ab_dup (pc2 := 20) dX11_init_19 rfl (ab_rf1 _) ?_
  obtain ⟨w7, ew7, hf⟩ := ab_bind hf
  refine ab_callIN (pc2 := 23) (st := [_, _]) (m_X9_init (d := (d + 0)) b5 ew7) mf_X9_init rfl rfl tn_X11_9 tw_11 dX11_init_20 rfl (by omega) (by omega) (by omega) rfl (Nat.le_of_ble_eq_true rfl) (fun v u hp => ?_)
  obtain ⟨rfl, rfl⟩ := hp
  show ab_T _ _ _ _ ((((0 + 1) + 1) + 1) + 1) ((((0 + 8) + 8) + 8) + 8) 23 _ ([_, _]) _ _
  have hf := ab_let_e hf
  refine ab_putR (pc2 := 26) rfl ht0 fa_X11_16 (ab_ty1 b5) (fun _ => rfl) dX11_init_23 rfl ?_
  refine ab_aload_n (x := _) (pc2 := 27) dX11_init_26 rfl rfl ?_
  obtain ⟨b9, hf⟩ := ab_guard hf
  have hf := ab_let_e hf
  refine ab_new (pc2 := 30) nf_X11_7 b9 (by omega) (by omega) dX11_init_27 rfl ?_
  refine ab_dup (pc2 := 31) dX11_init_30 rfl (ab_rf1 _) ?_
  obtain ⟨w11, ew11, hf⟩ := ab_bind hf
  refine ab_callIN (pc2 := 34) (st := [_, _]) (m_X9_init (d := (d + 0)) b9 ew11) mf_X9_init rfl rfl tn_X11_9 tw_11 dX11_init_31 rfl (by omega) (by omega) (by omega) rfl (Nat.le_of_ble_eq_true rfl) (fun v u hp => ?_)
  obtain ⟨rfl, rfl⟩ := hp
  show ab_T _ _ _ _ ((((((0 + 1) + 1) + 1) + 1) + 1) + 1) ((((((0 + 8) + 8) + 8) + 8) + 8) + 8) 34 _ ([_, _]) _ _
  have hf := ab_let_e hf
  refine ab_putR (pc2 := 37) rfl ht0 fa_X11_19 (ab_ty1 b9) (fun _ => rfl) dX11_init_34 rfl ?_
  refine ab_aload_n (x := _) (pc2 := 38) dX11_init_37 rfl rfl ?_
  obtain ⟨b13, hf⟩ := ab_guard hf
  have hf := ab_let_e hf
  refine ab_new (pc2 := 41) nf_X11_22 b13 (by omega) (by omega) dX11_init_38 rfl ?_
  refine ab_dup (pc2 := 42) dX11_init_41 rfl (ab_rf1 _) ?_
  obtain ⟨w15, ew15, hf⟩ := ab_bind hf
  refine ab_callIN (pc2 := 45) (st := [_, _]) (m_X10_init (d := (d + 0)) b13 ew15) mf_X10_init rfl rfl tn_X11_24 tw_12 dX11_init_42 rfl (by omega) (by omega) (by omega) rfl (Nat.le_of_ble_eq_true rfl) (fun v u hp => ?_)
  obtain ⟨rfl, rfl⟩ := hp
  show ab_T _ _ _ _ ((((((((0 + 1) + 1) + 1) + 1) + 1) + 1) + 1) + 3) ((((((((0 + 8) + 8) + 8) + 8) + 8) + 8) + 14) + 48) 45 _ ([_, _]) _ _
  have hf := ab_let_e hf
  refine ab_putR (pc2 := 48) rfl ht0 fa_X11_25 (ab_ty1 b13) (fun _ => rfl) dX11_init_45 rfl ?_
  refine ab_aload_n (x := _) (pc2 := 49) dX11_init_48 rfl rfl ?_
  refine ab_bipush (pc2 := 51) (v := 8) dX11_init_49 rfl ab_k_bipush_8 ?_
  obtain ⟨b17, hf⟩ := ab_guard hf
  have hf := ab_let_e hf
  refine ab_newaR (pc2 := 54) tw_13 (Or.inr ⟨rfl, rfl⟩) b17 (by decide) (by decide) (by decide) (by omega) (by omega) dX11_init_51 rfl ?_
  have hf := ab_let_e hf
  refine ab_putR (pc2 := 57) rfl ht0 fa_X11_31 (ab_ty1 (congrArg Prod.fst b17)) (fun _ => rfl) dX11_init_54 rfl ?_
  refine ab_aload_n (x := _) (pc2 := 58) dX11_init_57 rfl rfl ?_
  refine ab_iconst (pc2 := 59) (v := 5) dX11_init_58 rfl ab_k_iconst_5 ?_
  obtain ⟨b20, hf⟩ := ab_guard hf
  have hf := ab_let_e hf
  refine ab_newaI (pc2 := 61) tw_8 b20 (by decide) (by decide) (by decide) (by omega) (by omega) dX11_init_59 rfl ?_
  have hf := ab_let_e hf
  refine ab_putR (pc2 := 64) rfl ht0 fa_X11_35 (ab_ty1 (congrArg Prod.fst b20)) (fun _ => rfl) dX11_init_61 rfl ?_
  refine ab_aload_n (x := _) (pc2 := 65) dX11_init_64 rfl rfl ?_
  refine ab_sipush (pc2 := 68) (v := 241) dX11_init_65 rfl ab_k_sipush_241 ?_
  obtain ⟨b23, hf⟩ := ab_guard hf
  have hf := ab_let_e hf
  refine ab_newaI (pc2 := 70) tw_8 b23 (by decide) (by decide) (by decide) (by omega) (by omega) dX11_init_68 rfl ?_
  have hf := ab_let_e hf
  refine ab_putR (pc2 := 73) rfl ht0 fa_X11_39 (ab_ty1 (congrArg Prod.fst b23)) (fun _ => rfl) dX11_init_70 rfl ?_
  refine ab_aload_n (x := _) (pc2 := 74) dX11_init_73 rfl rfl ?_
  refine ab_sipush (pc2 := 77) (v := 241) dX11_init_74 rfl ab_k_sipush_241 ?_
  obtain ⟨b26, hf⟩ := ab_guard hf
  have hf := ab_let_e hf
  refine ab_newaI (pc2 := 79) tw_8 b26 (by decide) (by decide) (by decide) (by omega) (by omega) dX11_init_77 rfl ?_
  have hf := ab_let_e hf
  refine ab_putR (pc2 := 82) rfl ht0 fa_X11_42 (ab_ty1 (congrArg Prod.fst b26)) (fun _ => rfl) dX11_init_79 rfl ?_
  refine ab_iconst (pc2 := 83) (v := 0) dX11_init_82 rfl ab_k_iconst_0 ?_
  refine ab_istore_n (pc2 := 84) (lo2 := [some (va_rf _), some (.int _)]) dX11_init_83 rfl (by decide) rfl ?_
  exact ab_weak (x_X11_init_l84 ht0 _ _ _ _ _ (by omega) (by omega) hf) (ab_leS (ab_leS ab_le0))
set_option maxHeartbeats 4000000 in
set_option maxRecDepth 100000 in
theorem m_X11_init {d : Nat} {t0 : Nat} {h : ab_HP} {r : ab_HP} (ht0 : (ab_shp t0).1 = 0) (hf : f_X11_init t0 h = some r) : ab_MET mX11_init (d + 2) 32 1541 [va_rf (some t0)] h (ab_Pv r) := ab_met (by decide +kernel) (by decide +kernel) (Nat.le_of_ble_eq_true rfl) rfl (x_X11_init ht0 hf)
set_option maxHeartbeats 4000000 in
set_option maxRecDepth 100000 in
theorem x_X11_shelfAt {d : Nat} {t0 : Nat} {i1 : Int32} {h : ab_HP} {r : (Option Nat)} (ht0 : (ab_shp t0).1 = 0) (hf : f_X11_shelfAt t0 i1 h = some r) : ab_T mX11_shelfAt (d + 0) 0 0 0 0 0 [some (va_rf (some t0)), some (.int i1)] [] h (ab_Pr 3 r h) := by
  unfold f_X11_shelfAt at hf
  refine ab_iload_n (pc2 := 1) dX11_shelfAt_0 rfl rfl ?_
  refine ab_if_lt (tgt := 13) (pc2 := 4) dX11_shelfAt_1 (by decide) rfl hf (fun c1 hf => ?_) (fun c1 hf => ?_)
  · refine ab_null (pc2 := 14) dX11_shelfAt_13 rfl ?_
    refine ab_goto (tgt := 23) dX11_shelfAt_14 (by decide) ?_
    cases Option.some.inj hf
    exact ab_retA dX11_shelfAt_23 ⟨_, rfl⟩ (Nat.le_refl _) (Nat.le_refl _) ⟨rfl, rfl, (fun z hz => by cases hz)⟩
  · refine ab_iload_n (pc2 := 5) dX11_shelfAt_4 rfl rfl ?_
    refine ab_aload_n (x := _) (pc2 := 6) dX11_shelfAt_5 rfl rfl ?_
    refine ab_getR (pc2 := 9) rfl ht0 fa_X11_31 dX11_shelfAt_6 rfl (fun T2 => ?_)
    obtain ⟨q3, hq3, hf⟩ := ab_bind hf
    refine ab_alen (pc2 := 10) hq3 (Or.inr (Or.inr (T2 q3 hq3))) dX11_shelfAt_9 rfl ?_
    refine ab_icmp_lt (tgt := 17) (pc2 := 13) dX11_shelfAt_10 (by decide) rfl hf (fun c4 hf => ?_) (fun c4 hf => ?_)
    · refine ab_aload_n (x := _) (pc2 := 18) dX11_shelfAt_17 rfl rfl ?_
      refine ab_getR (pc2 := 21) rfl ht0 fa_X11_31 dX11_shelfAt_18 rfl (fun T5 => ?_)
      refine ab_iload_n (pc2 := 22) dX11_shelfAt_21 rfl rfl ?_
      obtain ⟨q6, hq6, hf⟩ := ab_bind hf
      obtain ⟨b7, hf⟩ := ab_guard hf
      refine ab_aald (pc2 := 23) hq6 (T5 q6 hq6) (Or.inr rfl) (ab_in_vp b7) dX11_shelfAt_22 rfl (fun T8 => ?_)
      cases Option.some.inj hf
      exact ab_retA dX11_shelfAt_23 ⟨_, rfl⟩ (Nat.le_refl _) (Nat.le_refl _) ⟨rfl, rfl, T8⟩
    · refine ab_null (pc2 := 14) dX11_shelfAt_13 rfl ?_
      refine ab_goto (tgt := 23) dX11_shelfAt_14 (by decide) ?_
      cases Option.some.inj hf
      exact ab_retA dX11_shelfAt_23 ⟨_, rfl⟩ (Nat.le_refl _) (Nat.le_refl _) ⟨rfl, rfl, (fun z hz => by cases hz)⟩
set_option maxHeartbeats 4000000 in
set_option maxRecDepth 100000 in
theorem m_X11_shelfAt {d : Nat} {t0 : Nat} {i1 : Int32} {h : ab_HP} {r : (Option Nat)} (ht0 : (ab_shp t0).1 = 0) (hf : f_X11_shelfAt t0 i1 h = some r) : ab_MET mX11_shelfAt (d + 0) 0 0 [va_rf (some t0), .int i1] h (ab_Pr 3 r h) := ab_met (by decide +kernel) (by decide +kernel) (Nat.le_of_ble_eq_true rfl) rfl (x_X11_shelfAt ht0 hf)
set_option maxHeartbeats 4000000 in
set_option maxRecDepth 100000 in
theorem x_X11_town {d : Nat} {t0 : Nat} {i1 : Int32} {h : ab_HP} {r : (Int32 × ab_HP)} (ht0 : (ab_shp t0).1 = 0) (hf : f_X11_town t0 i1 h = some r) : ab_T mX11_town (d + 7) 101 1414 0 0 0 [some (va_rf (some t0)), some (.int i1), none, none, none] [] h (ab_Pi r.1 r.2) := by
  unfold f_X11_town at hf
  refine ab_aload_n (x := _) (pc2 := 1) dX11_town_0 rfl rfl ?_
  refine ab_iload_n (pc2 := 2) dX11_town_1 rfl rfl ?_
  obtain ⟨w1, ew1, hf⟩ := ab_bind hf
  refine ab_callV (pc2 := 5) (st := []) rfl ht0 (by decide) (m_X11_shelfAt (d := (d + 6)) ht0 ew1) mf_X11_shelfAt tw_93 tw_92 ts_X11_shelfAt (Or.inl (by decide +kernel)) dX11_town_2 rfl (by omega) (by omega) (by omega) rfl (Nat.le_of_ble_eq_true rfl) (fun v u hp => ?_)
  obtain ⟨rfl, rfl, T2⟩ := hp
  show ab_T _ _ _ _ 0 0 5 _ (va_rf _ :: []) _ _
  refine ab_astore_n (pc2 := 6) (lo2 := [some (va_rf _), some (.int _), some (va_rf _), none, none]) dX11_town_5 rfl (by decide) rfl ?_
  refine ab_aload_n (x := _) (pc2 := 7) dX11_town_6 rfl rfl ?_
  refine ab_nnul (tgt := 12) (pc2 := 10) dX11_town_7 (by decide) rfl hf (fun hq3 hf => ?_) (fun q3 hq3 hf => ?_)
  · refine ab_iconst (pc2 := 11) (v := (-1)) dX11_town_10 rfl ab_k_iconst_m1 ?_
    cases Option.some.inj hf
    exact ab_retI dX11_town_11 (Or.inl rfl) (by omega) (by omega) ⟨rfl, rfl⟩
  · refine ab_aload_n (x := _) (pc2 := 13) dX11_town_12 rfl rfl ?_
    obtain ⟨w4, ew4, hf⟩ := ab_bind hf
    refine ab_callV (pc2 := 16) (st := []) hq3 (T2 q3 hq3) (by decide) (m_X6_bytesRefusal (d := (d + 5)) (T2 q3 hq3) ew4) mf_X6_bytesRefusal tw_95 tw_94 ts_X6_bytesRefusal (Or.inl (by decide +kernel)) dX11_town_13 rfl (by omega) (by omega) (by omega) rfl (Nat.le_of_ble_eq_true rfl) (fun v u hp => ?_)
    obtain ⟨rfl, rfl⟩ := hp
    show ab_T _ _ _ _ 0 0 16 _ (.int _ :: []) _ _
    refine ab_istore_n (pc2 := 17) (lo2 := [some (va_rf _), some (.int _), some (va_rf _), some (.int _), none]) dX11_town_16 rfl (by decide) rfl ?_
    refine ab_iload_n (pc2 := 18) dX11_town_17 rfl rfl ?_
    refine ab_if_eq (tgt := 23) (pc2 := 21) dX11_town_18 (by decide) rfl hf (fun c5 hf => ?_) (fun c5 hf => ?_)
    · refine ab_aload_n (x := _) (pc2 := 24) dX11_town_23 rfl rfl ?_
      refine ab_getR (pc2 := 27) rfl ht0 fa_X11_19 dX11_town_24 rfl (fun T6 => ?_)
      refine ab_aload_n (x := _) (pc2 := 28) dX11_town_27 rfl rfl ?_
      refine ab_getR (pc2 := 31) rfl ht0 fa_X11_10 dX11_town_28 rfl (fun T7 => ?_)
      obtain ⟨q8, hq8, hf⟩ := ab_bind hf
      obtain ⟨w9, ew9, hf⟩ := ab_bind hf
      refine ab_callV (pc2 := 34) (st := []) hq8 (T6 q8 hq8) (by decide) (m_X9_become (d := (d + 5)) (T6 q8 hq8) T7 ew9) mf_X9_become tw_97 tw_96 ts_X9_become (Or.inl (by decide +kernel)) dX11_town_31 rfl (by omega) (by omega) (by omega) rfl (Nat.le_of_ble_eq_true rfl) (fun v u hp => ?_)
      obtain ⟨rfl, rfl⟩ := hp
      show ab_T _ _ _ _ 0 0 34 _ ([]) _ _
      refine ab_aload_n (x := _) (pc2 := 35) dX11_town_34 rfl rfl ?_
      refine ab_getR (pc2 := 38) rfl ht0 fa_X11_19 dX11_town_35 rfl (fun T10 => ?_)
      refine ab_aload_n (x := _) (pc2 := 39) dX11_town_38 rfl rfl ?_
      obtain ⟨q11, hq11, hf⟩ := ab_bind hf
      obtain ⟨w12, ew12, hf⟩ := ab_bind hf
      refine ab_callV (pc2 := 42) (st := []) hq11 (T10 q11 hq11) (by decide) (m_X9_read (d := (d + 0)) (T10 q11 hq11) T2 ew12) mf_X9_read tw_99 tw_98 ts_X9_read (Or.inl (by decide +kernel)) dX11_town_39 rfl (by omega) (by omega) (by omega) rfl (Nat.le_of_ble_eq_true rfl) (fun v u hp => ?_)
      obtain ⟨rfl, rfl⟩ := hp
      show ab_T _ _ _ _ (0 + 101) (0 + 1414) 42 _ (.int _ :: []) _ _
      refine ab_istore (pc2 := 44) (lo2 := [some (va_rf _), some (.int _), some (va_rf _), some (.int _), some (.int _)]) dX11_town_42 rfl (by decide) rfl ?_
      refine ab_iload (pc2 := 46) dX11_town_44 rfl rfl ?_
      refine ab_if_le (tgt := 60) (pc2 := 49) dX11_town_46 (by decide) rfl hf (fun c13 hf => ?_) (fun c13 hf => ?_)
      · refine ab_iload (pc2 := 62) dX11_town_60 rfl rfl ?_
        cases Option.some.inj hf
        exact ab_retI dX11_town_62 (Or.inl rfl) (by omega) (by omega) ⟨rfl, rfl⟩
      · refine ab_aload_n (x := _) (pc2 := 50) dX11_town_49 rfl rfl ?_
        refine ab_getR (pc2 := 53) rfl ht0 fa_X11_10 dX11_town_50 rfl (fun T14 => ?_)
        refine ab_aload_n (x := _) (pc2 := 54) dX11_town_53 rfl rfl ?_
        refine ab_getR (pc2 := 57) rfl ht0 fa_X11_19 dX11_town_54 rfl (fun T15 => ?_)
        obtain ⟨q16, hq16, hf⟩ := ab_bind hf
        obtain ⟨w17, ew17, hf⟩ := ab_bind hf
        refine ab_callV (pc2 := 60) (st := []) hq16 (T14 q16 hq16) (by decide) (m_X9_become (d := (d + 5)) (T14 q16 hq16) T15 ew17) mf_X9_become tw_97 tw_96 ts_X9_become (Or.inl (by decide +kernel)) dX11_town_57 rfl (by omega) (by omega) (by omega) rfl (Nat.le_of_ble_eq_true rfl) (fun v u hp => ?_)
        obtain ⟨rfl, rfl⟩ := hp
        show ab_T _ _ _ _ (0 + 101) (0 + 1414) 60 _ ([]) _ _
        refine ab_iload (pc2 := 62) dX11_town_60 rfl rfl ?_
        cases Option.some.inj hf
        exact ab_retI dX11_town_62 (Or.inl rfl) (by omega) (by omega) ⟨rfl, rfl⟩
    · refine ab_iload_n (pc2 := 22) dX11_town_21 rfl rfl ?_
      cases Option.some.inj hf
      exact ab_retI dX11_town_22 (Or.inl rfl) (by omega) (by omega) ⟨rfl, rfl⟩
set_option maxHeartbeats 4000000 in
set_option maxRecDepth 100000 in
theorem m_X11_town {d : Nat} {t0 : Nat} {i1 : Int32} {h : ab_HP} {r : (Int32 × ab_HP)} (ht0 : (ab_shp t0).1 = 0) (hf : f_X11_town t0 i1 h = some r) : ab_MET mX11_town (d + 7) 101 1414 [va_rf (some t0), .int i1] h (ab_Pi r.1 r.2) := ab_met (by decide +kernel) (by decide +kernel) (Nat.le_of_ble_eq_true rfl) rfl (x_X11_town ht0 hf)
set_option maxHeartbeats 4000000 in
set_option maxRecDepth 100000 in
theorem x_X11_deed {d : Nat} {t0 : Nat} {i1 : Int32} {i2 : Int32} {h : ab_HP} {r : Int32} (ht0 : (ab_shp t0).1 = 0) (hf : f_X11_deed t0 i1 i2 h = some r) : ab_T mX11_deed (d + 1) 0 0 0 0 0 [some (va_rf (some t0)), some (.int i1), some (.int i2), none] [] h (ab_Pi r h) := by
  unfold f_X11_deed at hf
  refine ab_aload_n (x := _) (pc2 := 1) dX11_deed_0 rfl rfl ?_
  refine ab_getR (pc2 := 4) rfl ht0 fa_X11_10 dX11_deed_1 rfl (fun T1 => ?_)
  refine ab_iload_n (pc2 := 5) dX11_deed_4 rfl rfl ?_
  obtain ⟨q2, hq2, hf⟩ := ab_bind hf
  obtain ⟨w3, ew3, hf⟩ := ab_bind hf
  refine ab_callV (pc2 := 8) (st := []) hq2 (T1 q2 hq2) (by decide) (m_X9_deedAt (d := (d + 0)) (T1 q2 hq2) ew3) mf_X9_deedAt tw_127 tw_18 ts_X9_deedAt (Or.inl (by decide +kernel)) dX11_deed_5 rfl (by omega) (Nat.le_refl _) (Nat.le_refl _) rfl (Nat.le_of_ble_eq_true rfl) (fun v u hp => ?_)
  obtain ⟨rfl, rfl, T4⟩ := hp
  show ab_T _ _ _ _ 0 0 8 _ (va_rf _ :: []) _ _
  refine ab_astore_n (pc2 := 9) (lo2 := [some (va_rf _), some (.int _), some (.int _), some (va_rf _)]) dX11_deed_8 rfl (by decide) rfl ?_
  refine ab_aload_n (x := _) (pc2 := 10) dX11_deed_9 rfl rfl ?_
  refine ab_nnul (tgt := 15) (pc2 := 13) dX11_deed_10 (by decide) rfl hf (fun hq5 hf => ?_) (fun q5 hq5 hf => ?_)
  · refine ab_iconst (pc2 := 14) (v := (-1)) dX11_deed_13 rfl ab_k_iconst_m1 ?_
    cases Option.some.inj hf
    exact ab_retI dX11_deed_14 (Or.inl rfl) (Nat.le_refl _) (Nat.le_refl _) ⟨rfl, rfl⟩
  · refine ab_iload_n (pc2 := 16) dX11_deed_15 rfl rfl ?_
    rcases ab_cas hf with ⟨s6, hf⟩ | ⟨s6, hf⟩
    · refine ab_tswK (tgt := 64) dX11_deed_16 s6 (by decide) (by decide) (by decide +kernel) (by decide) ?_
      refine ab_aload_n (x := _) (pc2 := 65) dX11_deed_64 rfl rfl ?_
      refine ab_getI (pc2 := 68) hq5 (T4 q5 hq5) fa_X11_66 (by decide) dX11_deed_65 rfl ?_
      cases Option.some.inj hf
      exact ab_retI dX11_deed_68 (Or.inl rfl) (Nat.le_refl _) (Nat.le_refl _) ⟨rfl, rfl⟩
    rcases ab_cas hf with ⟨s7, hf⟩ | ⟨s7, hf⟩
    · refine ab_tswK (tgt := 69) dX11_deed_16 s7 (by decide) (by decide) (by decide +kernel) (by decide) ?_
      refine ab_aload_n (x := _) (pc2 := 70) dX11_deed_69 rfl rfl ?_
      refine ab_getI (pc2 := 73) hq5 (T4 q5 hq5) fa_X11_72 (by decide) dX11_deed_70 rfl ?_
      cases Option.some.inj hf
      exact ab_retI dX11_deed_73 (Or.inl rfl) (Nat.le_refl _) (Nat.le_refl _) ⟨rfl, rfl⟩
    rcases ab_cas hf with ⟨s8, hf⟩ | ⟨s8, hf⟩
    · refine ab_tswK (tgt := 74) dX11_deed_16 s8 (by decide) (by decide) (by decide +kernel) (by decide) ?_
      refine ab_aload_n (x := _) (pc2 := 75) dX11_deed_74 rfl rfl ?_
      refine ab_getI (pc2 := 78) hq5 (T4 q5 hq5) fa_X11_75 (by decide) dX11_deed_75 rfl ?_
      cases Option.some.inj hf
      exact ab_retI dX11_deed_78 (Or.inl rfl) (Nat.le_refl _) (Nat.le_refl _) ⟨rfl, rfl⟩
    rcases ab_cas hf with ⟨s9, hf⟩ | ⟨s9, hf⟩
    · refine ab_tswK (tgt := 79) dX11_deed_16 s9 (by decide) (by decide) (by decide +kernel) (by decide) ?_
      refine ab_aload_n (x := _) (pc2 := 80) dX11_deed_79 rfl rfl ?_
      refine ab_getI (pc2 := 83) hq5 (T4 q5 hq5) fa_X11_78 (by decide) dX11_deed_80 rfl ?_
      cases Option.some.inj hf
      exact ab_retI dX11_deed_83 (Or.inl rfl) (Nat.le_refl _) (Nat.le_refl _) ⟨rfl, rfl⟩
    rcases ab_cas hf with ⟨s10, hf⟩ | ⟨s10, hf⟩
    · refine ab_tswK (tgt := 84) dX11_deed_16 s10 (by decide) (by decide) (by decide +kernel) (by decide) ?_
      refine ab_aload_n (x := _) (pc2 := 85) dX11_deed_84 rfl rfl ?_
      refine ab_getI (pc2 := 88) hq5 (T4 q5 hq5) fa_X11_81 (by decide) dX11_deed_85 rfl ?_
      cases Option.some.inj hf
      exact ab_retI dX11_deed_88 (Or.inl rfl) (Nat.le_refl _) (Nat.le_refl _) ⟨rfl, rfl⟩
    rcases ab_cas hf with ⟨s11, hf⟩ | ⟨s11, hf⟩
    · refine ab_tswK (tgt := 89) dX11_deed_16 s11 (by decide) (by decide) (by decide +kernel) (by decide) ?_
      refine ab_aload_n (x := _) (pc2 := 90) dX11_deed_89 rfl rfl ?_
      refine ab_getI (pc2 := 93) hq5 (T4 q5 hq5) fa_X11_84 (by decide) dX11_deed_90 rfl ?_
      cases Option.some.inj hf
      exact ab_retI dX11_deed_93 (Or.inl rfl) (Nat.le_refl _) (Nat.le_refl _) ⟨rfl, rfl⟩
    rcases ab_cas hf with ⟨s12, hf⟩ | ⟨s12, hf⟩
    · refine ab_tswK (tgt := 94) dX11_deed_16 s12 (by decide) (by decide) (by decide +kernel) (by decide) ?_
      refine ab_aload_n (x := _) (pc2 := 95) dX11_deed_94 rfl rfl ?_
      refine ab_getI (pc2 := 98) hq5 (T4 q5 hq5) fa_X11_87 (by decide) dX11_deed_95 rfl ?_
      cases Option.some.inj hf
      exact ab_retI dX11_deed_98 (Or.inl rfl) (Nat.le_refl _) (Nat.le_refl _) ⟨rfl, rfl⟩
    rcases ab_cas hf with ⟨s13, hf⟩ | ⟨s13, hf⟩
    · refine ab_tswK (tgt := 99) dX11_deed_16 s13 (by decide) (by decide) (by decide +kernel) (by decide) ?_
      refine ab_aload_n (x := _) (pc2 := 100) dX11_deed_99 rfl rfl ?_
      refine ab_getI (pc2 := 103) hq5 (T4 q5 hq5) fa_X11_90 (by decide) dX11_deed_100 rfl ?_
      refine ab_if_eq (tgt := 110) (pc2 := 106) dX11_deed_103 (by decide) rfl hf (fun c14 hf => ?_) (fun c14 hf => ?_)
      · refine ab_iconst (pc2 := 111) (v := 0) dX11_deed_110 rfl ab_k_iconst_0 ?_
        cases Option.some.inj hf
        exact ab_retI dX11_deed_111 (Or.inl rfl) (Nat.le_refl _) (Nat.le_refl _) ⟨rfl, rfl⟩
      · refine ab_iconst (pc2 := 107) (v := 1) dX11_deed_106 rfl ab_k_iconst_1 ?_
        refine ab_goto (tgt := 111) dX11_deed_107 (by decide) ?_
        cases Option.some.inj hf
        exact ab_retI dX11_deed_111 (Or.inl rfl) (Nat.le_refl _) (Nat.le_refl _) ⟨rfl, rfl⟩
    have s6n := lv_neT s6 (by decide : (0 : Int32).toInt = 0)
    have s7n := lv_neT s7 (by decide : (1 : Int32).toInt = 1)
    have s8n := lv_neT s8 (by decide : (2 : Int32).toInt = 2)
    have s9n := lv_neT s9 (by decide : (3 : Int32).toInt = 3)
    have s10n := lv_neT s10 (by decide : (4 : Int32).toInt = 4)
    have s11n := lv_neT s11 (by decide : (5 : Int32).toInt = 5)
    have s12n := lv_neT s12 (by decide : (6 : Int32).toInt = 6)
    have s13n := lv_neT s13 (by decide : (7 : Int32).toInt = 7)
    refine ab_tswOut (tgt := 112) dX11_deed_16 (by omega) (by decide) ?_
    refine ab_iconst (pc2 := 113) (v := (-1)) dX11_deed_112 rfl ab_k_iconst_m1 ?_
    cases Option.some.inj hf
    exact ab_retI dX11_deed_113 (Or.inl rfl) (Nat.le_refl _) (Nat.le_refl _) ⟨rfl, rfl⟩
set_option maxHeartbeats 4000000 in
set_option maxRecDepth 100000 in
theorem m_X11_deed {d : Nat} {t0 : Nat} {i1 : Int32} {i2 : Int32} {h : ab_HP} {r : Int32} (ht0 : (ab_shp t0).1 = 0) (hf : f_X11_deed t0 i1 i2 h = some r) : ab_MET mX11_deed (d + 1) 0 0 [va_rf (some t0), .int i1, .int i2] h (ab_Pi r h) := ab_met (by decide +kernel) (by decide +kernel) (Nat.le_of_ble_eq_true rfl) rfl (x_X11_deed ht0 hf)
set_option maxHeartbeats 4000000 in
set_option maxRecDepth 100000 in
theorem x_X11_marks {d : Nat} {t0 : Nat} {h : ab_HP} {r : Int32} (ht0 : (ab_shp t0).1 = 0) (hf : f_X11_marks t0 h = some r) : ab_T mX11_marks (d + 0) 0 0 0 0 0 [some (va_rf (some t0))] [] h (ab_Pi r h) := by
  unfold f_X11_marks at hf
  refine ab_aload_n (x := _) (pc2 := 1) dX11_marks_0 rfl rfl ?_
  refine ab_getR (pc2 := 4) rfl ht0 fa_X11_10 dX11_marks_1 rfl (fun T1 => ?_)
  obtain ⟨q2, hq2, hf⟩ := ab_bind hf
  refine ab_getI (pc2 := 7) hq2 (T1 q2 hq2) fa_X11_94 (by decide) dX11_marks_4 rfl ?_
  cases Option.some.inj hf
  exact ab_retI dX11_marks_7 (Or.inl rfl) (Nat.le_refl _) (Nat.le_refl _) ⟨rfl, rfl⟩
set_option maxHeartbeats 4000000 in
set_option maxRecDepth 100000 in
theorem m_X11_marks {d : Nat} {t0 : Nat} {h : ab_HP} {r : Int32} (ht0 : (ab_shp t0).1 = 0) (hf : f_X11_marks t0 h = some r) : ab_MET mX11_marks (d + 0) 0 0 [va_rf (some t0)] h (ab_Pi r h) := ab_met (by decide +kernel) (by decide +kernel) (Nat.le_of_ble_eq_true rfl) rfl (x_X11_marks ht0 hf)
set_option maxHeartbeats 4000000 in
set_option maxRecDepth 100000 in
theorem x_X11_state {d : Nat} {t0 : Nat} {i1 : Int32} {h : ab_HP} {r : Int32} (ht0 : (ab_shp t0).1 = 0) (hf : f_X11_state t0 i1 h = some r) : ab_T mX11_state (d + 0) 0 0 0 0 0 [some (va_rf (some t0)), some (.int i1)] [] h (ab_Pi r h) := by
  unfold f_X11_state at hf
  refine ab_iload_n (pc2 := 1) dX11_state_0 rfl rfl ?_
  rcases ab_cas hf with ⟨s1, hf⟩ | ⟨s1, hf⟩
  · refine ab_tswK (tgt := 32) dX11_state_1 s1 (by decide) (by decide) (by decide +kernel) (by decide) ?_
    refine ab_aload_n (x := _) (pc2 := 33) dX11_state_32 rfl rfl ?_
    refine ab_getR (pc2 := 36) rfl ht0 fa_X11_10 dX11_state_33 rfl (fun T2 => ?_)
    obtain ⟨q3, hq3, hf⟩ := ab_bind hf
    refine ab_getI (pc2 := 39) hq3 (T2 q3 hq3) fa_X11_97 (by decide) dX11_state_36 rfl ?_
    cases Option.some.inj hf
    exact ab_retI dX11_state_39 (Or.inl rfl) (Nat.le_refl _) (Nat.le_refl _) ⟨rfl, rfl⟩
  rcases ab_cas hf with ⟨s4, hf⟩ | ⟨s4, hf⟩
  · refine ab_tswK (tgt := 40) dX11_state_1 s4 (by decide) (by decide) (by decide +kernel) (by decide) ?_
    refine ab_aload_n (x := _) (pc2 := 41) dX11_state_40 rfl rfl ?_
    refine ab_getR (pc2 := 44) rfl ht0 fa_X11_10 dX11_state_41 rfl (fun T5 => ?_)
    obtain ⟨q6, hq6, hf⟩ := ab_bind hf
    refine ab_getI (pc2 := 47) hq6 (T5 q6 hq6) fa_X11_100 (by decide) dX11_state_44 rfl ?_
    cases Option.some.inj hf
    exact ab_retI dX11_state_47 (Or.inl rfl) (Nat.le_refl _) (Nat.le_refl _) ⟨rfl, rfl⟩
  rcases ab_cas hf with ⟨s7, hf⟩ | ⟨s7, hf⟩
  · refine ab_tswK (tgt := 48) dX11_state_1 s7 (by decide) (by decide) (by decide +kernel) (by decide) ?_
    refine ab_aload_n (x := _) (pc2 := 49) dX11_state_48 rfl rfl ?_
    refine ab_getR (pc2 := 52) rfl ht0 fa_X11_10 dX11_state_49 rfl (fun T8 => ?_)
    obtain ⟨q9, hq9, hf⟩ := ab_bind hf
    refine ab_getI (pc2 := 55) hq9 (T8 q9 hq9) fa_X11_103 (by decide) dX11_state_52 rfl ?_
    cases Option.some.inj hf
    exact ab_retI dX11_state_55 (Or.inl rfl) (Nat.le_refl _) (Nat.le_refl _) ⟨rfl, rfl⟩
  rcases ab_cas hf with ⟨s10, hf⟩ | ⟨s10, hf⟩
  · refine ab_tswK (tgt := 56) dX11_state_1 s10 (by decide) (by decide) (by decide +kernel) (by decide) ?_
    refine ab_aload_n (x := _) (pc2 := 57) dX11_state_56 rfl rfl ?_
    refine ab_getR (pc2 := 60) rfl ht0 fa_X11_10 dX11_state_57 rfl (fun T11 => ?_)
    obtain ⟨q12, hq12, hf⟩ := ab_bind hf
    refine ab_getI (pc2 := 63) hq12 (T11 q12 hq12) fa_X11_106 (by decide) dX11_state_60 rfl ?_
    cases Option.some.inj hf
    exact ab_retI dX11_state_63 (Or.inl rfl) (Nat.le_refl _) (Nat.le_refl _) ⟨rfl, rfl⟩
  have s1n := lv_neT s1 (by decide : (0 : Int32).toInt = 0)
  have s4n := lv_neT s4 (by decide : (1 : Int32).toInt = 1)
  have s7n := lv_neT s7 (by decide : (2 : Int32).toInt = 2)
  have s10n := lv_neT s10 (by decide : (3 : Int32).toInt = 3)
  refine ab_tswOut (tgt := 64) dX11_state_1 (by omega) (by decide) ?_
  refine ab_iconst (pc2 := 65) (v := (-1)) dX11_state_64 rfl ab_k_iconst_m1 ?_
  cases Option.some.inj hf
  exact ab_retI dX11_state_65 (Or.inl rfl) (Nat.le_refl _) (Nat.le_refl _) ⟨rfl, rfl⟩
set_option maxHeartbeats 4000000 in
set_option maxRecDepth 100000 in
theorem m_X11_state {d : Nat} {t0 : Nat} {i1 : Int32} {h : ab_HP} {r : Int32} (ht0 : (ab_shp t0).1 = 0) (hf : f_X11_state t0 i1 h = some r) : ab_MET mX11_state (d + 0) 0 0 [va_rf (some t0), .int i1] h (ab_Pi r h) := ab_met (by decide +kernel) (by decide +kernel) (Nat.le_of_ble_eq_true rfl) rfl (x_X11_state ht0 hf)
set_option maxHeartbeats 4000000 in
set_option maxRecDepth 100000 in
theorem x_X11_rise {d : Nat} {t0 : Nat} {h : ab_HP} {r : Int32} (ht0 : (ab_shp t0).1 = 0) (hf : f_X11_rise t0 h = some r) : ab_T mX11_rise (d + 0) 0 0 0 0 0 [some (va_rf (some t0))] [] h (ab_Pi r h) := by
  unfold f_X11_rise at hf
  refine ab_aload_n (x := _) (pc2 := 1) dX11_rise_0 rfl rfl ?_
  refine ab_getR (pc2 := 4) rfl ht0 fa_X11_10 dX11_rise_1 rfl (fun T1 => ?_)
  obtain ⟨q2, hq2, hf⟩ := ab_bind hf
  refine ab_getI (pc2 := 7) hq2 (T1 q2 hq2) fa_X11_109 (by decide) dX11_rise_4 rfl ?_
  cases Option.some.inj hf
  exact ab_retI dX11_rise_7 (Or.inl rfl) (Nat.le_refl _) (Nat.le_refl _) ⟨rfl, rfl⟩
set_option maxHeartbeats 4000000 in
set_option maxRecDepth 100000 in
theorem m_X11_rise {d : Nat} {t0 : Nat} {h : ab_HP} {r : Int32} (ht0 : (ab_shp t0).1 = 0) (hf : f_X11_rise t0 h = some r) : ab_MET mX11_rise (d + 0) 0 0 [va_rf (some t0)] h (ab_Pi r h) := ab_met (by decide +kernel) (by decide +kernel) (Nat.le_of_ble_eq_true rfl) rfl (x_X11_rise ht0 hf)
set_option maxHeartbeats 4000000 in
set_option maxRecDepth 100000 in
theorem x_X11_set {d : Nat} {t0 : Nat} {i1 : Int32} {i2 : Int32} {h : ab_HP} {r : (Int32 × ab_HP)} (ht0 : (ab_shp t0).1 = 0) (hf : f_X11_set t0 i1 i2 h = some r) : ab_T mX11_set (d + 1) 0 0 0 0 0 [some (va_rf (some t0)), some (.int i1), some (.int i2)] [] h (ab_Pi r.1 r.2) := by
  unfold f_X11_set at hf
  refine ab_iload_n (pc2 := 1) dX11_set_0 rfl rfl ?_
  rcases ab_cas hf with ⟨s1, hf⟩ | ⟨s1, hf⟩
  · refine ab_tswK (tgt := 28) dX11_set_1 s1 (by decide) (by decide) (by decide +kernel) (by decide) ?_
    refine ab_aload_n (x := _) (pc2 := 29) dX11_set_28 rfl rfl ?_
    refine ab_getR (pc2 := 32) rfl ht0 fa_X11_10 dX11_set_29 rfl (fun T2 => ?_)
    refine ab_iload_n (pc2 := 33) dX11_set_32 rfl rfl ?_
    obtain ⟨q3, hq3, hf⟩ := ab_bind hf
    obtain ⟨w4, ew4, hf⟩ := ab_bind hf
    refine ab_callV (pc2 := 36) (st := []) hq3 (T2 q3 hq3) (by decide) (m_X9_changeLaw (d := (d + 0)) (T2 q3 hq3) ew4) mf_X9_changeLaw tw_140 tw_84 ts_X9_changeLaw (Or.inl (by decide +kernel)) dX11_set_33 rfl (by omega) (Nat.le_refl _) (Nat.le_refl _) rfl (Nat.le_of_ble_eq_true rfl) (fun v u hp => ?_)
    obtain ⟨rfl, rfl⟩ := hp
    show ab_T _ _ _ _ 0 0 36 _ (.int _ :: []) _ _
    cases Option.some.inj hf
    exact ab_retI dX11_set_36 (Or.inl rfl) (Nat.le_refl _) (Nat.le_refl _) ⟨rfl, rfl⟩
  rcases ab_cas hf with ⟨s5, hf⟩ | ⟨s5, hf⟩
  · refine ab_tswK (tgt := 37) dX11_set_1 s5 (by decide) (by decide) (by decide +kernel) (by decide) ?_
    refine ab_aload_n (x := _) (pc2 := 38) dX11_set_37 rfl rfl ?_
    refine ab_getR (pc2 := 41) rfl ht0 fa_X11_10 dX11_set_38 rfl (fun T6 => ?_)
    refine ab_iload_n (pc2 := 42) dX11_set_41 rfl rfl ?_
    obtain ⟨q7, hq7, hf⟩ := ab_bind hf
    obtain ⟨w8, ew8, hf⟩ := ab_bind hf
    refine ab_callV (pc2 := 45) (st := []) hq7 (T6 q7 hq7) (by decide) (m_X9_changeNail (d := (d + 0)) (T6 q7 hq7) ew8) mf_X9_changeNail tw_141 tw_72 ts_X9_changeNail (Or.inl (by decide +kernel)) dX11_set_42 rfl (by omega) (Nat.le_refl _) (Nat.le_refl _) rfl (Nat.le_of_ble_eq_true rfl) (fun v u hp => ?_)
    obtain ⟨rfl, rfl⟩ := hp
    show ab_T _ _ _ _ 0 0 45 _ (.int _ :: []) _ _
    cases Option.some.inj hf
    exact ab_retI dX11_set_45 (Or.inl rfl) (Nat.le_refl _) (Nat.le_refl _) ⟨rfl, rfl⟩
  rcases ab_cas hf with ⟨s9, hf⟩ | ⟨s9, hf⟩
  · refine ab_tswK (tgt := 46) dX11_set_1 s9 (by decide) (by decide) (by decide +kernel) (by decide) ?_
    refine ab_aload_n (x := _) (pc2 := 47) dX11_set_46 rfl rfl ?_
    refine ab_getR (pc2 := 50) rfl ht0 fa_X11_10 dX11_set_47 rfl (fun T10 => ?_)
    refine ab_iload_n (pc2 := 51) dX11_set_50 rfl rfl ?_
    obtain ⟨q11, hq11, hf⟩ := ab_bind hf
    obtain ⟨w12, ew12, hf⟩ := ab_bind hf
    refine ab_callV (pc2 := 54) (st := []) hq11 (T10 q11 hq11) (by decide) (m_X9_changeCoins (d := (d + 0)) (T10 q11 hq11) ew12) mf_X9_changeCoins tw_142 tw_74 ts_X9_changeCoins (Or.inl (by decide +kernel)) dX11_set_51 rfl (by omega) (Nat.le_refl _) (Nat.le_refl _) rfl (Nat.le_of_ble_eq_true rfl) (fun v u hp => ?_)
    obtain ⟨rfl, rfl⟩ := hp
    show ab_T _ _ _ _ 0 0 54 _ (.int _ :: []) _ _
    cases Option.some.inj hf
    exact ab_retI dX11_set_54 (Or.inl rfl) (Nat.le_refl _) (Nat.le_refl _) ⟨rfl, rfl⟩
  have s1n := lv_neT s1 (by decide : (0 : Int32).toInt = 0)
  have s5n := lv_neT s5 (by decide : (1 : Int32).toInt = 1)
  have s9n := lv_neT s9 (by decide : (2 : Int32).toInt = 2)
  refine ab_tswOut (tgt := 55) dX11_set_1 (by omega) (by decide) ?_
  refine ab_iconst (pc2 := 56) (v := (-1)) dX11_set_55 rfl ab_k_iconst_m1 ?_
  cases Option.some.inj hf
  exact ab_retI dX11_set_56 (Or.inl rfl) (Nat.le_refl _) (Nat.le_refl _) ⟨rfl, rfl⟩
set_option maxHeartbeats 4000000 in
set_option maxRecDepth 100000 in
theorem m_X11_set {d : Nat} {t0 : Nat} {i1 : Int32} {i2 : Int32} {h : ab_HP} {r : (Int32 × ab_HP)} (ht0 : (ab_shp t0).1 = 0) (hf : f_X11_set t0 i1 i2 h = some r) : ab_MET mX11_set (d + 1) 0 0 [va_rf (some t0), .int i1, .int i2] h (ab_Pi r.1 r.2) := ab_met (by decide +kernel) (by decide +kernel) (Nat.le_of_ble_eq_true rfl) rfl (x_X11_set ht0 hf)
set_option maxHeartbeats 4000000 in
set_option maxRecDepth 100000 in
theorem x_X11_may {d : Nat} {t0 : Nat} {i1 : Int32} {h : ab_HP} {r : Int32} (ht0 : (ab_shp t0).1 = 0) (hf : f_X11_may t0 i1 h = some r) : ab_T mX11_may (d + 2) 0 0 0 0 0 [some (va_rf (some t0)), some (.int i1), none] [] h (ab_Pi r h) := by
  unfold f_X11_may at hf
  refine ab_aload_n (x := _) (pc2 := 1) dX11_may_0 rfl rfl ?_
  refine ab_getR (pc2 := 4) rfl ht0 fa_X11_10 dX11_may_1 rfl (fun T1 => ?_)
  refine ab_iload_n (pc2 := 5) dX11_may_4 rfl rfl ?_
  obtain ⟨q2, hq2, hf⟩ := ab_bind hf
  obtain ⟨w3, ew3, hf⟩ := ab_bind hf
  refine ab_callV (pc2 := 8) (st := []) hq2 (T1 q2 hq2) (by decide) (m_X9_deedAt (d := (d + 1)) (T1 q2 hq2) ew3) mf_X9_deedAt tw_127 tw_18 ts_X9_deedAt (Or.inl (by decide +kernel)) dX11_may_5 rfl (by omega) (Nat.le_refl _) (Nat.le_refl _) rfl (Nat.le_of_ble_eq_true rfl) (fun v u hp => ?_)
  obtain ⟨rfl, rfl, T4⟩ := hp
  show ab_T _ _ _ _ 0 0 8 _ (va_rf _ :: []) _ _
  refine ab_astore_n (pc2 := 9) (lo2 := [some (va_rf _), some (.int _), some (va_rf _)]) dX11_may_8 rfl (by decide) rfl ?_
  refine ab_aload_n (x := _) (pc2 := 10) dX11_may_9 rfl rfl ?_
  refine ab_nnul (tgt := 15) (pc2 := 13) dX11_may_10 (by decide) rfl hf (fun hq5 hf => ?_) (fun q5 hq5 hf => ?_)
  · refine ab_iconst (pc2 := 14) (v := (-1)) dX11_may_13 rfl ab_k_iconst_m1 ?_
    cases Option.some.inj hf
    exact ab_retI dX11_may_14 (Or.inl rfl) (Nat.le_refl _) (Nat.le_refl _) ⟨rfl, rfl⟩
  · refine ab_aload_n (x := _) (pc2 := 16) dX11_may_15 rfl rfl ?_
    refine ab_aload_n (x := _) (pc2 := 17) dX11_may_16 rfl rfl ?_
    refine ab_getR (pc2 := 20) rfl ht0 fa_X11_10 dX11_may_17 rfl (fun T6 => ?_)
    obtain ⟨q7, hq7, hf⟩ := ab_bind hf
    refine ab_getI (pc2 := 23) hq7 (T6 q7 hq7) fa_X11_94 (by decide) dX11_may_20 rfl ?_
    refine ab_aload_n (x := _) (pc2 := 24) dX11_may_23 rfl rfl ?_
    refine ab_getR (pc2 := 27) rfl ht0 fa_X11_10 dX11_may_24 rfl (fun T8 => ?_)
    obtain ⟨q9, hq9, hf⟩ := ab_bind hf
    refine ab_getI (pc2 := 30) hq9 (T8 q9 hq9) fa_X11_97 (by decide) dX11_may_27 rfl ?_
    obtain ⟨w10, ew10, hf⟩ := ab_bind hf
    refine ab_callV (pc2 := 33) (st := []) hq5 (T4 q5 hq5) (by decide) (m_X1_mayBeDone (d := (d + 0)) (T4 q5 hq5) ew10) mf_X1_mayBeDone tw_151 tw_149 ts_X1_mayBeDone (Or.inr tw_150) dX11_may_30 rfl (by omega) (Nat.le_refl _) (Nat.le_refl _) rfl (Nat.le_of_ble_eq_true rfl) (fun v u hp => ?_)
    obtain ⟨rfl, rfl, z11⟩ := hp
    show ab_T _ _ _ _ 0 0 33 _ (.int _ :: []) _ _
    refine ab_if_eq (tgt := 40) (pc2 := 36) dX11_may_33 (by decide) rfl hf (fun c12 hf => ?_) (fun c12 hf => ?_)
    · refine ab_iconst (pc2 := 41) (v := 0) dX11_may_40 rfl ab_k_iconst_0 ?_
      cases Option.some.inj hf
      exact ab_retI dX11_may_41 (Or.inl rfl) (Nat.le_refl _) (Nat.le_refl _) ⟨rfl, rfl⟩
    · refine ab_iconst (pc2 := 37) (v := 1) dX11_may_36 rfl ab_k_iconst_1 ?_
      refine ab_goto (tgt := 41) dX11_may_37 (by decide) ?_
      cases Option.some.inj hf
      exact ab_retI dX11_may_41 (Or.inl rfl) (Nat.le_refl _) (Nat.le_refl _) ⟨rfl, rfl⟩
set_option maxHeartbeats 4000000 in
set_option maxRecDepth 100000 in
theorem m_X11_may {d : Nat} {t0 : Nat} {i1 : Int32} {h : ab_HP} {r : Int32} (ht0 : (ab_shp t0).1 = 0) (hf : f_X11_may t0 i1 h = some r) : ab_MET mX11_may (d + 2) 0 0 [va_rf (some t0), .int i1] h (ab_Pi r h) := ab_met (by decide +kernel) (by decide +kernel) (Nat.le_of_ble_eq_true rfl) rfl (x_X11_may ht0 hf)
set_option maxHeartbeats 4000000 in
set_option maxRecDepth 100000 in
theorem x_X11_areNails {d : Nat} {i0 : Int32} {h : ab_HP} {r : Int32}  (hf : f_X11_areNails i0 h = some r) : ab_T mX11_areNails (d + 0) 0 0 0 0 0 [some (.int i0)] [] h (ab_Pb r h) := by
  unfold f_X11_areNails at hf
  refine ab_iload_n (pc2 := 1) dX11_areNails_0 rfl rfl ?_
  refine ab_if_lt (tgt := 15) (pc2 := 4) dX11_areNails_1 (by decide) rfl hf (fun c1 hf => ?_) (fun c1 hf => ?_)
  · refine ab_iconst (pc2 := 16) (v := 0) dX11_areNails_15 rfl ab_k_iconst_0 ?_
    cases Option.some.inj hf
    exact ab_retI dX11_areNails_16 (Or.inr ⟨rfl, (Or.inl rfl)⟩) (Nat.le_refl _) (Nat.le_refl _) ⟨rfl, rfl, (Or.inl rfl)⟩
  · refine ab_iload_n (pc2 := 5) dX11_areNails_4 rfl rfl ?_
    refine ab_sipush (pc2 := 8) (v := 255) dX11_areNails_5 rfl ab_k_sipush_255 ?_
    refine ab_icmp_gt (tgt := 15) (pc2 := 11) dX11_areNails_8 (by decide) rfl hf (fun c2 hf => ?_) (fun c2 hf => ?_)
    · refine ab_iconst (pc2 := 16) (v := 0) dX11_areNails_15 rfl ab_k_iconst_0 ?_
      cases Option.some.inj hf
      exact ab_retI dX11_areNails_16 (Or.inr ⟨rfl, (Or.inl rfl)⟩) (Nat.le_refl _) (Nat.le_refl _) ⟨rfl, rfl, (Or.inl rfl)⟩
    · refine ab_iconst (pc2 := 12) (v := 1) dX11_areNails_11 rfl ab_k_iconst_1 ?_
      refine ab_goto (tgt := 16) dX11_areNails_12 (by decide) ?_
      cases Option.some.inj hf
      exact ab_retI dX11_areNails_16 (Or.inr ⟨rfl, (Or.inr rfl)⟩) (Nat.le_refl _) (Nat.le_refl _) ⟨rfl, rfl, (Or.inr rfl)⟩
set_option maxHeartbeats 4000000 in
set_option maxRecDepth 100000 in
theorem m_X11_areNails {d : Nat} {i0 : Int32} {h : ab_HP} {r : Int32}  (hf : f_X11_areNails i0 h = some r) : ab_MET mX11_areNails (d + 0) 0 0 [.int i0] h (ab_Pb r h) := ab_met (by decide +kernel) (by decide +kernel) (Nat.le_of_ble_eq_true rfl) rfl (x_X11_areNails  hf)
set_option maxHeartbeats 4000000 in
set_option maxRecDepth 100000 in
theorem x_X11_listRefusal_l38 {d : Nat} {t0 : Nat} {r : Int32} (ht0 : (ab_shp t0).1 = 0) : ∀ (n : Nat) (i2 : Option Nat) (i4 : Int32) (h : ab_HP), (∀ z, i2 = some z → (ab_shp z).1 = 3) → f_X11_listRefusal_l38 t0 n i2 i4 h = some r → ab_T mX11_listRefusal (d + 2) 0 0 0 0 38 [some (va_rf (some t0)), none, some (va_rf i2), none, some (.int i4)] [] h (ab_Pi r h) := by
  intro n
  induction n with
  | zero =>
    intro i2 i4 h T_i2 hf
    rw [f_X11_listRefusal_l38] at hf
    cases hf
  | succ n ih =>
    intro i2 i4 h T_i2 hf
    rw [f_X11_listRefusal_l38] at hf
    refine ab_iload (pc2 := 40) dX11_listRefusal_38 rfl rfl ?_
    refine ab_aload_n (x := _) (pc2 := 41) dX11_listRefusal_40 rfl rfl ?_
    obtain ⟨q7, hq7, hf⟩ := ab_bind hf
    refine ab_getI (pc2 := 44) hq7 (T_i2 q7 hq7) fa_X11_182 (by decide) dX11_listRefusal_41 rfl ?_
    refine ab_icmp_ge (tgt := 72) (pc2 := 47) dX11_listRefusal_44 (by decide) rfl hf (fun c8 hf => ?_) (fun c8 hf => ?_)
    · refine ab_iconst (pc2 := 73) (v := 0) dX11_listRefusal_72 rfl ab_k_iconst_0 ?_
      cases Option.some.inj hf
      exact ab_retI dX11_listRefusal_73 (Or.inl rfl) (Nat.le_refl _) (Nat.le_refl _) ⟨rfl, rfl⟩
    · refine ab_aload_n (x := _) (pc2 := 48) dX11_listRefusal_47 rfl rfl ?_
      refine ab_getR (pc2 := 51) rfl ht0 fa_X11_10 dX11_listRefusal_48 rfl (fun T9 => ?_)
      refine ab_aload_n (x := _) (pc2 := 52) dX11_listRefusal_51 rfl rfl ?_
      refine ab_iload (pc2 := 54) dX11_listRefusal_52 rfl rfl ?_
      obtain ⟨w10, ew10, hf⟩ := ab_bind hf
      refine ab_callV (pc2 := 57) (st := [_]) hq7 (T_i2 q7 hq7) (by decide) (m_X6_read (d := (d + 0)) (T_i2 q7 hq7) ew10) mf_X6_read tw_154 tw_24 ts_X6_read (Or.inl (by decide +kernel)) dX11_listRefusal_54 rfl (by omega) (Nat.le_refl _) (Nat.le_refl _) rfl (Nat.le_of_ble_eq_true rfl) (fun v u hp => ?_)
      obtain ⟨rfl, rfl⟩ := hp
      show ab_T _ _ _ _ 0 0 57 _ (.int _ :: [_]) _ _
      obtain ⟨q11, hq11, hf⟩ := ab_bind hf
      obtain ⟨w12, ew12, hf⟩ := ab_bind hf
      refine ab_callV (pc2 := 60) (st := []) hq11 (T9 q11 hq11) (by decide) (m_X9_deedAt (d := (d + 1)) (T9 q11 hq11) ew12) mf_X9_deedAt tw_127 tw_18 ts_X9_deedAt (Or.inl (by decide +kernel)) dX11_listRefusal_57 rfl (by omega) (Nat.le_refl _) (Nat.le_refl _) rfl (Nat.le_of_ble_eq_true rfl) (fun v u hp => ?_)
      obtain ⟨rfl, rfl, T13⟩ := hp
      show ab_T _ _ _ _ 0 0 60 _ (va_rf _ :: []) _ _
      refine ab_nnul (tgt := 66) (pc2 := 63) dX11_listRefusal_60 (by decide) rfl hf (fun hq14 hf => ?_) (fun q14 hq14 hf => ?_)
      · refine ab_bipush (pc2 := 65) (v := (-13)) dX11_listRefusal_63 rfl ab_k_bipush_m13 ?_
        cases Option.some.inj hf
        exact ab_retI dX11_listRefusal_65 (Or.inl rfl) (Nat.le_refl _) (Nat.le_refl _) ⟨rfl, rfl⟩
      · refine ab_iinc (pc2 := 69) (v := _ + 1) (lo2 := [some (va_rf _), none, some (va_rf _), none, some (.int _)]) dX11_listRefusal_66 rfl rfl rfl (by decide) rfl ?_
        refine ab_goto (tgt := 38) dX11_listRefusal_69 (by decide) ?_
        exact ab_weak (ih _ _ _ T_i2 hf) (ab_leS (ab_leN (ab_leS (ab_leN (ab_leS ab_le0)))))
set_option maxHeartbeats 4000000 in
set_option maxRecDepth 100000 in
theorem x_X11_listRefusal {d : Nat} {t0 : Nat} {i1 : Int32} {h : ab_HP} {r : Int32} (ht0 : (ab_shp t0).1 = 0) (hf : f_X11_listRefusal t0 i1 h = some r) : ab_T mX11_listRefusal (d + 2) 0 0 0 0 0 [some (va_rf (some t0)), some (.int i1), none, none, none] [] h (ab_Pi r h) := by
  unfold f_X11_listRefusal at hf
  refine ab_aload_n (x := _) (pc2 := 1) dX11_listRefusal_0 rfl rfl ?_
  refine ab_iload_n (pc2 := 2) dX11_listRefusal_1 rfl rfl ?_
  obtain ⟨w1, ew1, hf⟩ := ab_bind hf
  refine ab_callV (pc2 := 5) (st := []) rfl ht0 (by decide) (m_X11_shelfAt (d := (d + 1)) ht0 ew1) mf_X11_shelfAt tw_93 tw_92 ts_X11_shelfAt (Or.inl (by decide +kernel)) dX11_listRefusal_2 rfl (by omega) (Nat.le_refl _) (Nat.le_refl _) rfl (Nat.le_of_ble_eq_true rfl) (fun v u hp => ?_)
  obtain ⟨rfl, rfl, T2⟩ := hp
  show ab_T _ _ _ _ 0 0 5 _ (va_rf _ :: []) _ _
  refine ab_astore_n (pc2 := 6) (lo2 := [some (va_rf _), some (.int _), some (va_rf _), none, none]) dX11_listRefusal_5 rfl (by decide) rfl ?_
  refine ab_aload_n (x := _) (pc2 := 7) dX11_listRefusal_6 rfl rfl ?_
  refine ab_nnul (tgt := 12) (pc2 := 10) dX11_listRefusal_7 (by decide) rfl hf (fun hq3 hf => ?_) (fun q3 hq3 hf => ?_)
  · refine ab_iconst (pc2 := 11) (v := (-1)) dX11_listRefusal_10 rfl ab_k_iconst_m1 ?_
    cases Option.some.inj hf
    exact ab_retI dX11_listRefusal_11 (Or.inl rfl) (Nat.le_refl _) (Nat.le_refl _) ⟨rfl, rfl⟩
  · refine ab_aload_n (x := _) (pc2 := 13) dX11_listRefusal_12 rfl rfl ?_
    obtain ⟨w4, ew4, hf⟩ := ab_bind hf
    refine ab_callV (pc2 := 16) (st := []) hq3 (T2 q3 hq3) (by decide) (m_X6_bytesRefusal (d := (d + 0)) (T2 q3 hq3) ew4) mf_X6_bytesRefusal tw_95 tw_94 ts_X6_bytesRefusal (Or.inl (by decide +kernel)) dX11_listRefusal_13 rfl (by omega) (Nat.le_refl _) (Nat.le_refl _) rfl (Nat.le_of_ble_eq_true rfl) (fun v u hp => ?_)
    obtain ⟨rfl, rfl⟩ := hp
    show ab_T _ _ _ _ 0 0 16 _ (.int _ :: []) _ _
    refine ab_istore_n (pc2 := 17) (lo2 := [some (va_rf _), some (.int _), some (va_rf _), some (.int _), none]) dX11_listRefusal_16 rfl (by decide) rfl ?_
    refine ab_iload_n (pc2 := 18) dX11_listRefusal_17 rfl rfl ?_
    refine ab_if_eq (tgt := 23) (pc2 := 21) dX11_listRefusal_18 (by decide) rfl hf (fun c5 hf => ?_) (fun c5 hf => ?_)
    · refine ab_aload_n (x := _) (pc2 := 24) dX11_listRefusal_23 rfl rfl ?_
      refine ab_getI (pc2 := 27) hq3 (T2 q3 hq3) fa_X11_182 (by decide) dX11_listRefusal_24 rfl ?_
      refine ab_bipush (pc2 := 29) (v := 8) dX11_listRefusal_27 rfl ab_k_bipush_8 ?_
      refine ab_icmp_le (tgt := 35) (pc2 := 32) dX11_listRefusal_29 (by decide) rfl hf (fun c6 hf => ?_) (fun c6 hf => ?_)
      · refine ab_iconst (pc2 := 36) (v := 0) dX11_listRefusal_35 rfl ab_k_iconst_0 ?_
        refine ab_istore (pc2 := 38) (lo2 := [some (va_rf _), some (.int _), some (va_rf _), some (.int _), some (.int _)]) dX11_listRefusal_36 rfl (by decide) rfl ?_
        exact ab_weak (x_X11_listRefusal_l38 ht0 _ _ _ _ T2 hf) (ab_leS (ab_leN (ab_leS (ab_leN (ab_leS ab_le0)))))
      · refine ab_bipush (pc2 := 34) (v := (-13)) dX11_listRefusal_32 rfl ab_k_bipush_m13 ?_
        cases Option.some.inj hf
        exact ab_retI dX11_listRefusal_34 (Or.inl rfl) (Nat.le_refl _) (Nat.le_refl _) ⟨rfl, rfl⟩
    · refine ab_iload_n (pc2 := 22) dX11_listRefusal_21 rfl rfl ?_
      cases Option.some.inj hf
      exact ab_retI dX11_listRefusal_22 (Or.inl rfl) (Nat.le_refl _) (Nat.le_refl _) ⟨rfl, rfl⟩
set_option maxHeartbeats 4000000 in
set_option maxRecDepth 100000 in
theorem m_X11_listRefusal {d : Nat} {t0 : Nat} {i1 : Int32} {h : ab_HP} {r : Int32} (ht0 : (ab_shp t0).1 = 0) (hf : f_X11_listRefusal t0 i1 h = some r) : ab_MET mX11_listRefusal (d + 2) 0 0 [va_rf (some t0), .int i1] h (ab_Pi r h) := ab_met (by decide +kernel) (by decide +kernel) (Nat.le_of_ble_eq_true rfl) rfl (x_X11_listRefusal ht0 hf)
set_option maxHeartbeats 4000000 in
set_option maxRecDepth 100000 in
theorem x_X11_takeList_l36 {d : Nat} {t0 : Nat} {r : (Int32 × ab_HP)} (ht0 : (ab_shp t0).1 = 0) : ∀ (n : Nat) (i3 : Option Nat) (i4 : Int32) (h : ab_HP), (∀ z, i3 = some z → (ab_shp z).1 = 3) → f_X11_takeList_l36 t0 n i3 i4 h = some r → ab_T mX11_takeList (d + 3) 0 0 0 0 36 [some (va_rf (some t0)), none, none, some (va_rf i3), some (.int i4)] [] h (ab_Pi r.1 r.2) := by
  intro n
  induction n with
  | zero =>
    intro i3 i4 h T_i3 hf
    rw [f_X11_takeList_l36] at hf
    cases hf
  | succ n ih =>
    intro i3 i4 h T_i3 hf
    rw [f_X11_takeList_l36] at hf
    refine ab_iload (pc2 := 38) dX11_takeList_36 rfl rfl ?_
    refine ab_aload_n (x := _) (pc2 := 39) dX11_takeList_38 rfl rfl ?_
    obtain ⟨q10, hq10, hf⟩ := ab_bind hf
    refine ab_getI (pc2 := 42) hq10 (T_i3 q10 hq10) fa_X11_182 (by decide) dX11_takeList_39 rfl ?_
    refine ab_icmp_ge (tgt := 71) (pc2 := 45) dX11_takeList_42 (by decide) rfl hf (fun c11 hf => ?_) (fun c11 hf => ?_)
    · refine ab_iconst (pc2 := 72) (v := 0) dX11_takeList_71 rfl ab_k_iconst_0 ?_
      cases Option.some.inj hf
      exact ab_retI dX11_takeList_72 (Or.inl rfl) (Nat.le_refl _) (Nat.le_refl _) ⟨rfl, rfl⟩
    · refine ab_aload_n (x := _) (pc2 := 46) dX11_takeList_45 rfl rfl ?_
      refine ab_getR (pc2 := 49) rfl ht0 fa_X11_25 dX11_takeList_46 rfl (fun T12 => ?_)
      refine ab_aload_n (x := _) (pc2 := 50) dX11_takeList_49 rfl rfl ?_
      refine ab_getR (pc2 := 53) rfl ht0 fa_X11_10 dX11_takeList_50 rfl (fun T13 => ?_)
      refine ab_aload_n (x := _) (pc2 := 54) dX11_takeList_53 rfl rfl ?_
      refine ab_iload (pc2 := 56) dX11_takeList_54 rfl rfl ?_
      obtain ⟨w14, ew14, hf⟩ := ab_bind hf
      refine ab_callV (pc2 := 59) (st := [_, _]) hq10 (T_i3 q10 hq10) (by decide) (m_X6_read (d := (d + 1)) (T_i3 q10 hq10) ew14) mf_X6_read tw_154 tw_24 ts_X6_read (Or.inl (by decide +kernel)) dX11_takeList_56 rfl (by omega) (Nat.le_refl _) (Nat.le_refl _) rfl (Nat.le_of_ble_eq_true rfl) (fun v u hp => ?_)
      obtain ⟨rfl, rfl⟩ := hp
      show ab_T _ _ _ _ 0 0 59 _ (.int _ :: [_, _]) _ _
      obtain ⟨q15, hq15, hf⟩ := ab_bind hf
      obtain ⟨w16, ew16, hf⟩ := ab_bind hf
      refine ab_callV (pc2 := 62) (st := [_]) hq15 (T13 q15 hq15) (by decide) (m_X9_deedAt (d := (d + 2)) (T13 q15 hq15) ew16) mf_X9_deedAt tw_127 tw_18 ts_X9_deedAt (Or.inl (by decide +kernel)) dX11_takeList_59 rfl (by omega) (Nat.le_refl _) (Nat.le_refl _) rfl (Nat.le_of_ble_eq_true rfl) (fun v u hp => ?_)
      obtain ⟨rfl, rfl, T17⟩ := hp
      show ab_T _ _ _ _ 0 0 62 _ (va_rf _ :: [_]) _ _
      obtain ⟨q18, hq18, hf⟩ := ab_bind hf
      obtain ⟨w19, ew19, hf⟩ := ab_bind hf
      refine ab_callV (pc2 := 65) (st := []) hq18 (T12 q18 hq18) (by decide) (m_X10_add (d := (d + 2)) (T12 q18 hq18) T17 ew19) mf_X10_add tw_160 tw_159 ts_X10_add (Or.inl (by decide +kernel)) dX11_takeList_62 rfl (by omega) (Nat.le_refl _) (Nat.le_refl _) rfl (Nat.le_of_ble_eq_true rfl) (fun v u hp => ?_)
      obtain ⟨rfl, rfl⟩ := hp
      show ab_T _ _ _ _ 0 0 65 _ ([]) _ _
      refine ab_iinc (pc2 := 68) (v := _ + 1) (lo2 := [some (va_rf _), none, none, some (va_rf _), some (.int _)]) dX11_takeList_65 rfl rfl rfl (by decide) rfl ?_
      refine ab_goto (tgt := 36) dX11_takeList_68 (by decide) ?_
      exact ab_weak (ih _ _ _ T_i3 hf) (ab_leS (ab_leN (ab_leN (ab_leS (ab_leS ab_le0)))))
set_option maxHeartbeats 4000000 in
set_option maxRecDepth 100000 in
theorem x_X11_takeList {d : Nat} {t0 : Nat} {i1 : Int32} {h : ab_HP} {r : (Int32 × ab_HP)} (ht0 : (ab_shp t0).1 = 0) (hf : f_X11_takeList t0 i1 h = some r) : ab_T mX11_takeList (d + 3) 0 0 0 0 0 [some (va_rf (some t0)), some (.int i1), none, none, none] [] h (ab_Pi r.1 r.2) := by
  unfold f_X11_takeList at hf
  refine ab_aload_n (x := _) (pc2 := 1) dX11_takeList_0 rfl rfl ?_
  refine ab_iload_n (pc2 := 2) dX11_takeList_1 rfl rfl ?_
  obtain ⟨w1, ew1, hf⟩ := ab_bind hf
  refine ab_callV (pc2 := 5) (st := []) rfl ht0 (by decide) (m_X11_listRefusal (d := (d + 0)) ht0 ew1) mf_X11_listRefusal tw_156 tw_155 ts_X11_listRefusal (Or.inl (by decide +kernel)) dX11_takeList_2 rfl (by omega) (Nat.le_refl _) (Nat.le_refl _) rfl (Nat.le_of_ble_eq_true rfl) (fun v u hp => ?_)
  obtain ⟨rfl, rfl⟩ := hp
  show ab_T _ _ _ _ 0 0 5 _ (.int _ :: []) _ _
  refine ab_istore_n (pc2 := 6) (lo2 := [some (va_rf _), some (.int _), some (.int _), none, none]) dX11_takeList_5 rfl (by decide) rfl ?_
  refine ab_aload_n (x := _) (pc2 := 7) dX11_takeList_6 rfl rfl ?_
  refine ab_iload_n (pc2 := 8) dX11_takeList_7 rfl rfl ?_
  obtain ⟨w2, ew2, hf⟩ := ab_bind hf
  refine ab_callV (pc2 := 11) (st := []) rfl ht0 (by decide) (m_X11_shelfAt (d := (d + 2)) ht0 ew2) mf_X11_shelfAt tw_93 tw_92 ts_X11_shelfAt (Or.inl (by decide +kernel)) dX11_takeList_8 rfl (by omega) (Nat.le_refl _) (Nat.le_refl _) rfl (Nat.le_of_ble_eq_true rfl) (fun v u hp => ?_)
  obtain ⟨rfl, rfl, T3⟩ := hp
  show ab_T _ _ _ _ 0 0 11 _ (va_rf _ :: []) _ _
  refine ab_astore_n (pc2 := 12) (lo2 := [some (va_rf _), some (.int _), some (.int _), some (va_rf _), none]) dX11_takeList_11 rfl (by decide) rfl ?_
  refine ab_iload_n (pc2 := 13) dX11_takeList_12 rfl rfl ?_
  refine ab_if_ne (tgt := 20) (pc2 := 16) dX11_takeList_13 (by decide) rfl hf (fun c4 hf => ?_) (fun c4 hf => ?_)
  · refine ab_iload_n (pc2 := 21) dX11_takeList_20 rfl rfl ?_
    cases Option.some.inj hf
    exact ab_retI dX11_takeList_21 (Or.inl rfl) (Nat.le_refl _) (Nat.le_refl _) ⟨rfl, rfl⟩
  · refine ab_aload_n (x := _) (pc2 := 17) dX11_takeList_16 rfl rfl ?_
    refine ab_nnul (tgt := 22) (pc2 := 20) dX11_takeList_17 (by decide) rfl hf (fun hq5 hf => ?_) (fun q5 hq5 hf => ?_)
    · refine ab_iload_n (pc2 := 21) dX11_takeList_20 rfl rfl ?_
      cases Option.some.inj hf
      exact ab_retI dX11_takeList_21 (Or.inl rfl) (Nat.le_refl _) (Nat.le_refl _) ⟨rfl, rfl⟩
    · refine ab_aload_n (x := _) (pc2 := 23) dX11_takeList_22 rfl rfl ?_
      refine ab_getR (pc2 := 26) rfl ht0 fa_X11_25 dX11_takeList_23 rfl (fun T6 => ?_)
      refine ab_aload_n (x := _) (pc2 := 27) dX11_takeList_26 rfl rfl ?_
      refine ab_getR (pc2 := 30) rfl ht0 fa_X11_10 dX11_takeList_27 rfl (fun T7 => ?_)
      obtain ⟨q8, hq8, hf⟩ := ab_bind hf
      obtain ⟨w9, ew9, hf⟩ := ab_bind hf
      refine ab_callV (pc2 := 33) (st := []) hq8 (T6 q8 hq8) (by decide) (m_X10_open (d := (d + 2)) (T6 q8 hq8) T7 ew9) mf_X10_open tw_158 tw_157 ts_X10_open (Or.inl (by decide +kernel)) dX11_takeList_30 rfl (by omega) (Nat.le_refl _) (Nat.le_refl _) rfl (Nat.le_of_ble_eq_true rfl) (fun v u hp => ?_)
      obtain ⟨rfl, rfl⟩ := hp
      show ab_T _ _ _ _ 0 0 33 _ ([]) _ _
      refine ab_iconst (pc2 := 34) (v := 0) dX11_takeList_33 rfl ab_k_iconst_0 ?_
      refine ab_istore (pc2 := 36) (lo2 := [some (va_rf _), some (.int _), some (.int _), some (va_rf _), some (.int _)]) dX11_takeList_34 rfl (by decide) rfl ?_
      exact ab_weak (x_X11_takeList_l36 ht0 _ _ _ _ T3 hf) (ab_leS (ab_leN (ab_leN (ab_leS (ab_leS ab_le0)))))
set_option maxHeartbeats 4000000 in
set_option maxRecDepth 100000 in
theorem m_X11_takeList {d : Nat} {t0 : Nat} {i1 : Int32} {h : ab_HP} {r : (Int32 × ab_HP)} (ht0 : (ab_shp t0).1 = 0) (hf : f_X11_takeList t0 i1 h = some r) : ab_MET mX11_takeList (d + 3) 0 0 [va_rf (some t0), .int i1] h (ab_Pi r.1 r.2) := ab_met (by decide +kernel) (by decide +kernel) (Nat.le_of_ble_eq_true rfl) rfl (x_X11_takeList ht0 hf)
set_option maxHeartbeats 4000000 in
set_option maxRecDepth 100000 in
theorem x_X11_playList {d : Nat} {t0 : Nat} {i1 : Int32} {i2 : Int32} {h : ab_HP} {r : (Int32 × ab_HP)} (ht0 : (ab_shp t0).1 = 0) (hf : f_X11_playList t0 i1 i2 h = some r) : ab_T mX11_playList (d + 5) 0 0 0 0 0 [some (va_rf (some t0)), some (.int i1), some (.int i2), none] [] h (ab_Pi r.1 r.2) := by
  unfold f_X11_playList at hf
  refine ab_iload_n (pc2 := 1) dX11_playList_0 rfl rfl ?_
  obtain ⟨w1, ew1, hf⟩ := ab_bind hf
  refine ab_callS (pc2 := 4) (st := []) (m_X11_areNails (d := (d + 4)) ew1) mf_X11_areNails tw_190 tw_191 dX11_playList_1 rfl (by omega) (Nat.le_refl _) (Nat.le_refl _) rfl (Nat.le_of_ble_eq_true rfl) (fun v u hp => ?_)
  obtain ⟨rfl, rfl, z2⟩ := hp
  show ab_T _ _ _ _ 0 0 4 _ (.int _ :: []) _ _
  refine ab_if_ne (tgt := 9) (pc2 := 7) dX11_playList_4 (by decide) rfl hf (fun c3 hf => ?_) (fun c3 hf => ?_)
  · refine ab_aload_n (x := _) (pc2 := 10) dX11_playList_9 rfl rfl ?_
    refine ab_iload_n (pc2 := 11) dX11_playList_10 rfl rfl ?_
    obtain ⟨w4, ew4, hf⟩ := ab_bind hf
    refine ab_callV (pc2 := 14) (st := []) rfl ht0 (by decide) (m_X11_takeList (d := (d + 1)) ht0 ew4) mf_X11_takeList tw_193 tw_192 ts_X11_takeList (Or.inl (by decide +kernel)) dX11_playList_11 rfl (by omega) (Nat.le_refl _) (Nat.le_refl _) rfl (Nat.le_of_ble_eq_true rfl) (fun v u hp => ?_)
    obtain ⟨rfl, rfl⟩ := hp
    show ab_T _ _ _ _ 0 0 14 _ (.int _ :: []) _ _
    refine ab_istore_n (pc2 := 15) (lo2 := [some (va_rf _), some (.int _), some (.int _), some (.int _)]) dX11_playList_14 rfl (by decide) rfl ?_
    refine ab_iload_n (pc2 := 16) dX11_playList_15 rfl rfl ?_
    refine ab_if_ne (tgt := 27) (pc2 := 19) dX11_playList_16 (by decide) rfl hf (fun c5 hf => ?_) (fun c5 hf => ?_)
    · refine ab_iload_n (pc2 := 28) dX11_playList_27 rfl rfl ?_
      cases Option.some.inj hf
      exact ab_retI dX11_playList_28 (Or.inl rfl) (Nat.le_refl _) (Nat.le_refl _) ⟨rfl, rfl⟩
    · refine ab_aload_n (x := _) (pc2 := 20) dX11_playList_19 rfl rfl ?_
      refine ab_getR (pc2 := 23) rfl ht0 fa_X11_25 dX11_playList_20 rfl (fun T6 => ?_)
      refine ab_iload_n (pc2 := 24) dX11_playList_23 rfl rfl ?_
      obtain ⟨q7, hq7, hf⟩ := ab_bind hf
      obtain ⟨w8, ew8, hf⟩ := ab_bind hf
      refine ab_callV (pc2 := 27) (st := []) hq7 (T6 q7 hq7) (by decide) (m_X10_play (d := (d + 0)) (T6 q7 hq7) ew8) mf_X10_play tw_195 tw_194 ts_X10_play (Or.inl (by decide +kernel)) dX11_playList_24 rfl (by omega) (Nat.le_refl _) (Nat.le_refl _) rfl (Nat.le_of_ble_eq_true rfl) (fun v u hp => ?_)
      obtain ⟨rfl, rfl⟩ := hp
      show ab_T _ _ _ _ 0 0 27 _ ([]) _ _
      refine ab_iload_n (pc2 := 28) dX11_playList_27 rfl rfl ?_
      cases Option.some.inj hf
      exact ab_retI dX11_playList_28 (Or.inl rfl) (Nat.le_refl _) (Nat.le_refl _) ⟨rfl, rfl⟩
  · refine ab_iconst (pc2 := 8) (v := (-1)) dX11_playList_7 rfl ab_k_iconst_m1 ?_
    cases Option.some.inj hf
    exact ab_retI dX11_playList_8 (Or.inl rfl) (Nat.le_refl _) (Nat.le_refl _) ⟨rfl, rfl⟩
set_option maxHeartbeats 4000000 in
set_option maxRecDepth 100000 in
theorem m_X11_playList {d : Nat} {t0 : Nat} {i1 : Int32} {i2 : Int32} {h : ab_HP} {r : (Int32 × ab_HP)} (ht0 : (ab_shp t0).1 = 0) (hf : f_X11_playList t0 i1 i2 h = some r) : ab_MET mX11_playList (d + 5) 0 0 [va_rf (some t0), .int i1, .int i2] h (ab_Pi r.1 r.2) := ab_met (by decide +kernel) (by decide +kernel) (Nat.le_of_ble_eq_true rfl) rfl (x_X11_playList ht0 hf)
set_option maxHeartbeats 4000000 in
set_option maxRecDepth 100000 in
theorem x_X11_endYears {d : Nat} {t0 : Nat} {i1 : Int32} {h : ab_HP} {r : ab_HP} (ht0 : (ab_shp t0).1 = 0) (hf : f_X11_endYears t0 i1 h = some r) : ab_T mX11_endYears (d + 0) 0 0 0 0 0 [some (va_rf (some t0)), some (.int i1)] [] h (ab_Pv r) := by
  unfold f_X11_endYears at hf
  refine ab_aload_n (x := _) (pc2 := 1) dX11_endYears_0 rfl rfl ?_
  refine ab_getR (pc2 := 4) rfl ht0 fa_X11_10 dX11_endYears_1 rfl (fun T1 => ?_)
  refine ab_aload_n (x := _) (pc2 := 5) dX11_endYears_4 rfl rfl ?_
  refine ab_getR (pc2 := 8) rfl ht0 fa_X11_25 dX11_endYears_5 rfl (fun T2 => ?_)
  obtain ⟨q3, hq3, hf⟩ := ab_bind hf
  refine ab_getI (pc2 := 11) hq3 (T2 q3 hq3) fa_X11_155 (by decide) dX11_endYears_8 rfl ?_
  obtain ⟨q4, hq4, hf⟩ := ab_bind hf
  have hf := ab_let_e hf
  refine ab_putI (pc2 := 14) hq4 (T1 q4 hq4) fa_X11_94 (Or.inl rfl) (fun z => by cases z) dX11_endYears_11 rfl ?_
  refine ab_aload_n (x := _) (pc2 := 15) dX11_endYears_14 rfl rfl ?_
  refine ab_getR (pc2 := 18) rfl ht0 fa_X11_10 dX11_endYears_15 rfl (fun T6 => ?_)
  refine ab_aload_n (x := _) (pc2 := 19) dX11_endYears_18 rfl rfl ?_
  refine ab_getR (pc2 := 22) rfl ht0 fa_X11_25 dX11_endYears_19 rfl (fun T7 => ?_)
  obtain ⟨q8, hq8, hf⟩ := ab_bind hf
  refine ab_getI (pc2 := 25) hq8 (T7 q8 hq8) fa_X11_162 (by decide) dX11_endYears_22 rfl ?_
  obtain ⟨q9, hq9, hf⟩ := ab_bind hf
  have hf := ab_let_e hf
  refine ab_putI (pc2 := 28) hq9 (T6 q9 hq9) fa_X11_97 (Or.inl rfl) (fun z => by cases z) dX11_endYears_25 rfl ?_
  refine ab_aload_n (x := _) (pc2 := 29) dX11_endYears_28 rfl rfl ?_
  refine ab_getR (pc2 := 32) rfl ht0 fa_X11_10 dX11_endYears_29 rfl (fun T11 => ?_)
  refine ab_dup (pc2 := 33) dX11_endYears_32 rfl (ab_rf1 _) ?_
  obtain ⟨q12, hq12, hf⟩ := ab_bind hf
  refine ab_getI (pc2 := 36) hq12 (T11 q12 hq12) fa_X11_100 (by decide) dX11_endYears_33 rfl ?_
  refine ab_iload_n (pc2 := 37) dX11_endYears_36 rfl rfl ?_
  refine ab_iadd (pc2 := 38) dX11_endYears_37 rfl ?_
  have hf := ab_let_e hf
  refine ab_putI (pc2 := 41) hq12 (T11 q12 hq12) fa_X11_100 (Or.inl rfl) (fun z => by cases z) dX11_endYears_38 rfl ?_
  cases Option.some.inj hf
  exact ab_retV dX11_endYears_41 rfl (Nat.le_refl _) (Nat.le_refl _) ⟨rfl, rfl⟩
set_option maxHeartbeats 4000000 in
set_option maxRecDepth 100000 in
theorem m_X11_endYears {d : Nat} {t0 : Nat} {i1 : Int32} {h : ab_HP} {r : ab_HP} (ht0 : (ab_shp t0).1 = 0) (hf : f_X11_endYears t0 i1 h = some r) : ab_MET mX11_endYears (d + 0) 0 0 [va_rf (some t0), .int i1] h (ab_Pv r) := ab_met (by decide +kernel) (by decide +kernel) (Nat.le_of_ble_eq_true rfl) rfl (x_X11_endYears ht0 hf)
set_option maxHeartbeats 4000000 in
set_option maxRecDepth 100000 in
theorem x_X11_pair {d : Nat} {t0 : Nat} {i1 : Int32} {i2 : Int32} {h : ab_HP} {r : (Int32 × ab_HP)} (ht0 : (ab_shp t0).1 = 0) (hf : f_X11_pair t0 i1 i2 h = some r) : ab_T mX11_pair (d + 6) 0 0 0 0 0 [some (va_rf (some t0)), some (.int i1), some (.int i2), none] [] h (ab_Pi r.1 r.2) := by
  unfold f_X11_pair at hf
  refine ab_aload_n (x := _) (pc2 := 1) dX11_pair_0 rfl rfl ?_
  refine ab_iload_n (pc2 := 2) dX11_pair_1 rfl rfl ?_
  refine ab_iload_n (pc2 := 3) dX11_pair_2 rfl rfl ?_
  obtain ⟨w1, ew1, hf⟩ := ab_bind hf
  refine ab_callV (pc2 := 6) (st := []) rfl ht0 (by decide) (m_X11_playList (d := (d + 0)) ht0 ew1) mf_X11_playList tw_197 tw_196 ts_X11_playList (Or.inl (by decide +kernel)) dX11_pair_3 rfl (by omega) (Nat.le_refl _) (Nat.le_refl _) rfl (Nat.le_of_ble_eq_true rfl) (fun v u hp => ?_)
  obtain ⟨rfl, rfl⟩ := hp
  show ab_T _ _ _ _ 0 0 6 _ (.int _ :: []) _ _
  refine ab_istore_n (pc2 := 7) (lo2 := [some (va_rf _), some (.int _), some (.int _), some (.int _)]) dX11_pair_6 rfl (by decide) rfl ?_
  refine ab_iload_n (pc2 := 8) dX11_pair_7 rfl rfl ?_
  refine ab_if_eq (tgt := 13) (pc2 := 11) dX11_pair_8 (by decide) rfl hf (fun c2 hf => ?_) (fun c2 hf => ?_)
  · refine ab_aload_n (x := _) (pc2 := 14) dX11_pair_13 rfl rfl ?_
    refine ab_iconst (pc2 := 15) (v := 2) dX11_pair_14 rfl ab_k_iconst_2 ?_
    obtain ⟨w3, ew3, hf⟩ := ab_bind hf
    refine ab_callV (pc2 := 18) (st := []) rfl ht0 (by decide) (m_X11_endYears (d := (d + 5)) ht0 ew3) mf_X11_endYears tw_199 tw_198 ts_X11_endYears (Or.inl (by decide +kernel)) dX11_pair_15 rfl (by omega) (Nat.le_refl _) (Nat.le_refl _) rfl (Nat.le_of_ble_eq_true rfl) (fun v u hp => ?_)
    obtain ⟨rfl, rfl⟩ := hp
    show ab_T _ _ _ _ 0 0 18 _ ([]) _ _
    refine ab_aload_n (x := _) (pc2 := 19) dX11_pair_18 rfl rfl ?_
    refine ab_getR (pc2 := 22) rfl ht0 fa_X11_25 dX11_pair_19 rfl (fun T4 => ?_)
    obtain ⟨q5, hq5, hf⟩ := ab_bind hf
    obtain ⟨w6, ew6, hf⟩ := ab_bind hf
    refine ab_callV (pc2 := 25) (st := []) hq5 (T4 q5 hq5) (by decide) (m_X10_standing (d := (d + 5)) (T4 q5 hq5) ew6) mf_X10_standing tw_201 tw_200 ts_X10_standing (Or.inl (by decide +kernel)) dX11_pair_22 rfl (by omega) (Nat.le_refl _) (Nat.le_refl _) rfl (Nat.le_of_ble_eq_true rfl) (fun v u hp => ?_)
    obtain ⟨rfl, rfl⟩ := hp
    show ab_T _ _ _ _ 0 0 25 _ (.int _ :: []) _ _
    obtain ⟨w7, ew7, hf⟩ := ab_bind hf
    refine ab_callS (pc2 := 28) (st := []) (m_J6_bitCount_0f7a4 (d := (d + 5)) ew7) mf_J6_bitCount_0f7a4 tw_202 tw_203 dX11_pair_25 rfl (by omega) (Nat.le_refl _) (Nat.le_refl _) rfl (Nat.le_of_ble_eq_true rfl) (fun v u hp => ?_)
    obtain ⟨rfl, rfl⟩ := hp
    show ab_T _ _ _ _ 0 0 28 _ (.int _ :: []) _ _
    cases Option.some.inj hf
    exact ab_retI dX11_pair_28 (Or.inl rfl) (Nat.le_refl _) (Nat.le_refl _) ⟨rfl, rfl⟩
  · refine ab_iload_n (pc2 := 12) dX11_pair_11 rfl rfl ?_
    cases Option.some.inj hf
    exact ab_retI dX11_pair_12 (Or.inl rfl) (Nat.le_refl _) (Nat.le_refl _) ⟨rfl, rfl⟩
set_option maxHeartbeats 4000000 in
set_option maxRecDepth 100000 in
theorem m_X11_pair {d : Nat} {t0 : Nat} {i1 : Int32} {i2 : Int32} {h : ab_HP} {r : (Int32 × ab_HP)} (ht0 : (ab_shp t0).1 = 0) (hf : f_X11_pair t0 i1 i2 h = some r) : ab_MET mX11_pair (d + 6) 0 0 [va_rf (some t0), .int i1, .int i2] h (ab_Pi r.1 r.2) := ab_met (by decide +kernel) (by decide +kernel) (Nat.le_of_ble_eq_true rfl) rfl (x_X11_pair ht0 hf)
set_option maxHeartbeats 4000000 in
set_option maxRecDepth 100000 in
theorem x_X11_even {d : Nat} {t0 : Nat} {i1 : Int32} {h : ab_HP} {r : (Int32 × ab_HP)} (ht0 : (ab_shp t0).1 = 0) (hf : f_X11_even t0 i1 h = some r) : ab_T mX11_even (d + 4) 0 0 0 0 0 [some (va_rf (some t0)), some (.int i1), none] [] h (ab_Pi r.1 r.2) := by
  unfold f_X11_even at hf
  refine ab_aload_n (x := _) (pc2 := 1) dX11_even_0 rfl rfl ?_
  refine ab_iload_n (pc2 := 2) dX11_even_1 rfl rfl ?_
  obtain ⟨w1, ew1, hf⟩ := ab_bind hf
  refine ab_callV (pc2 := 5) (st := []) rfl ht0 (by decide) (m_X11_takeList (d := (d + 0)) ht0 ew1) mf_X11_takeList tw_193 tw_192 ts_X11_takeList (Or.inl (by decide +kernel)) dX11_even_2 rfl (by omega) (Nat.le_refl _) (Nat.le_refl _) rfl (Nat.le_of_ble_eq_true rfl) (fun v u hp => ?_)
  obtain ⟨rfl, rfl⟩ := hp
  show ab_T _ _ _ _ 0 0 5 _ (.int _ :: []) _ _
  refine ab_istore_n (pc2 := 6) (lo2 := [some (va_rf _), some (.int _), some (.int _)]) dX11_even_5 rfl (by decide) rfl ?_
  refine ab_iload_n (pc2 := 7) dX11_even_6 rfl rfl ?_
  refine ab_if_eq (tgt := 12) (pc2 := 10) dX11_even_7 (by decide) rfl hf (fun c2 hf => ?_) (fun c2 hf => ?_)
  · refine ab_aload_n (x := _) (pc2 := 13) dX11_even_12 rfl rfl ?_
    refine ab_getR (pc2 := 16) rfl ht0 fa_X11_25 dX11_even_13 rfl (fun T3 => ?_)
    refine ab_aload_n (x := _) (pc2 := 17) dX11_even_16 rfl rfl ?_
    refine ab_getR (pc2 := 20) rfl ht0 fa_X11_10 dX11_even_17 rfl (fun T4 => ?_)
    obtain ⟨q5, hq5, hf⟩ := ab_bind hf
    refine ab_getI (pc2 := 23) hq5 (T4 q5 hq5) fa_X11_94 (by decide) dX11_even_20 rfl ?_
    refine ab_aload_n (x := _) (pc2 := 24) dX11_even_23 rfl rfl ?_
    refine ab_getR (pc2 := 27) rfl ht0 fa_X11_10 dX11_even_24 rfl (fun T6 => ?_)
    obtain ⟨q7, hq7, hf⟩ := ab_bind hf
    refine ab_getI (pc2 := 30) hq7 (T6 q7 hq7) fa_X11_97 (by decide) dX11_even_27 rfl ?_
    obtain ⟨q8, hq8, hf⟩ := ab_bind hf
    obtain ⟨w9, ew9, hf⟩ := ab_bind hf
    refine ab_callV (pc2 := 33) (st := []) hq8 (T3 q8 hq8) (by decide) (m_X10_begin (d := (d + 3)) (T3 q8 hq8) ew9) mf_X10_begin tw_233 tw_184 ts_X10_begin (Or.inl (by decide +kernel)) dX11_even_30 rfl (by omega) (Nat.le_refl _) (Nat.le_refl _) rfl (Nat.le_of_ble_eq_true rfl) (fun v u hp => ?_)
    obtain ⟨rfl, rfl⟩ := hp
    show ab_T _ _ _ _ 0 0 33 _ ([]) _ _
    refine ab_aload_n (x := _) (pc2 := 34) dX11_even_33 rfl rfl ?_
    refine ab_getR (pc2 := 37) rfl ht0 fa_X11_25 dX11_even_34 rfl (fun T10 => ?_)
    refine ab_iconst (pc2 := 38) (v := 0) dX11_even_37 rfl ab_k_iconst_0 ?_
    obtain ⟨q11, hq11, hf⟩ := ab_bind hf
    obtain ⟨w12, ew12, hf⟩ := ab_bind hf
    refine ab_callV (pc2 := 41) (st := []) hq11 (T10 q11 hq11) (by decide) (m_X10_evenYear (d := (d + 0)) (T10 q11 hq11) ew12) mf_X10_evenYear tw_234 tw_186 ts_X10_evenYear (Or.inl (by decide +kernel)) dX11_even_38 rfl (by omega) (Nat.le_refl _) (Nat.le_refl _) rfl (Nat.le_of_ble_eq_true rfl) (fun v u hp => ?_)
    obtain ⟨rfl, rfl⟩ := hp
    show ab_T _ _ _ _ 0 0 41 _ ([]) _ _
    refine ab_aload_n (x := _) (pc2 := 42) dX11_even_41 rfl rfl ?_
    refine ab_iconst (pc2 := 43) (v := 1) dX11_even_42 rfl ab_k_iconst_1 ?_
    obtain ⟨w13, ew13, hf⟩ := ab_bind hf
    refine ab_callV (pc2 := 46) (st := []) rfl ht0 (by decide) (m_X11_endYears (d := (d + 3)) ht0 ew13) mf_X11_endYears tw_199 tw_198 ts_X11_endYears (Or.inl (by decide +kernel)) dX11_even_43 rfl (by omega) (Nat.le_refl _) (Nat.le_refl _) rfl (Nat.le_of_ble_eq_true rfl) (fun v u hp => ?_)
    obtain ⟨rfl, rfl⟩ := hp
    show ab_T _ _ _ _ 0 0 46 _ ([]) _ _
    refine ab_aload_n (x := _) (pc2 := 47) dX11_even_46 rfl rfl ?_
    refine ab_getR (pc2 := 50) rfl ht0 fa_X11_25 dX11_even_47 rfl (fun T14 => ?_)
    obtain ⟨q15, hq15, hf⟩ := ab_bind hf
    refine ab_getI (pc2 := 53) hq15 (T14 q15 hq15) fa_X11_152 (by decide) dX11_even_50 rfl ?_
    obtain ⟨w16, ew16, hf⟩ := ab_bind hf
    refine ab_callS (pc2 := 56) (st := []) (m_J6_bitCount_0f7a4 (d := (d + 3)) ew16) mf_J6_bitCount_0f7a4 tw_202 tw_203 dX11_even_53 rfl (by omega) (Nat.le_refl _) (Nat.le_refl _) rfl (Nat.le_of_ble_eq_true rfl) (fun v u hp => ?_)
    obtain ⟨rfl, rfl⟩ := hp
    show ab_T _ _ _ _ 0 0 56 _ (.int _ :: []) _ _
    cases Option.some.inj hf
    exact ab_retI dX11_even_56 (Or.inl rfl) (Nat.le_refl _) (Nat.le_refl _) ⟨rfl, rfl⟩
  · refine ab_iload_n (pc2 := 11) dX11_even_10 rfl rfl ?_
    cases Option.some.inj hf
    exact ab_retI dX11_even_11 (Or.inl rfl) (Nat.le_refl _) (Nat.le_refl _) ⟨rfl, rfl⟩
set_option maxHeartbeats 4000000 in
set_option maxRecDepth 100000 in
theorem m_X11_even {d : Nat} {t0 : Nat} {i1 : Int32} {h : ab_HP} {r : (Int32 × ab_HP)} (ht0 : (ab_shp t0).1 = 0) (hf : f_X11_even t0 i1 h = some r) : ab_MET mX11_even (d + 4) 0 0 [va_rf (some t0), .int i1] h (ab_Pi r.1 r.2) := ab_met (by decide +kernel) (by decide +kernel) (Nat.le_of_ble_eq_true rfl) rfl (x_X11_even ht0 hf)
set_option maxHeartbeats 4000000 in
set_option maxRecDepth 100000 in
theorem x_X11_lasts {d : Nat} {t0 : Nat} {i1 : Int32} {i2 : Int32} {i3 : Int32} {h : ab_HP} {r : (Int32 × ab_HP)} (ht0 : (ab_shp t0).1 = 0) (hf : f_X11_lasts t0 i1 i2 i3 h = some r) : ab_T mX11_lasts (d + 6) 0 0 0 0 0 [some (va_rf (some t0)), some (.int i1), some (.int i2), some (.int i3), none] [] h (ab_Pi r.1 r.2) := by
  unfold f_X11_lasts at hf
  refine ab_iload_n (pc2 := 1) dX11_lasts_0 rfl rfl ?_
  refine ab_if_lt (tgt := 10) (pc2 := 4) dX11_lasts_1 (by decide) rfl hf (fun c1 hf => ?_) (fun c1 hf => ?_)
  · refine ab_iconst (pc2 := 11) (v := (-1)) dX11_lasts_10 rfl ab_k_iconst_m1 ?_
    cases Option.some.inj hf
    exact ab_retI dX11_lasts_11 (Or.inl rfl) (Nat.le_refl _) (Nat.le_refl _) ⟨rfl, rfl⟩
  · refine ab_iload_n (pc2 := 5) dX11_lasts_4 rfl rfl ?_
    refine ab_bipush (pc2 := 7) (v := 10) dX11_lasts_5 rfl ab_k_bipush_10 ?_
    refine ab_icmp_lt (tgt := 12) (pc2 := 10) dX11_lasts_7 (by decide) rfl hf (fun c2 hf => ?_) (fun c2 hf => ?_)
    · refine ab_aload_n (x := _) (pc2 := 13) dX11_lasts_12 rfl rfl ?_
      refine ab_iload_n (pc2 := 14) dX11_lasts_13 rfl rfl ?_
      refine ab_iload_n (pc2 := 15) dX11_lasts_14 rfl rfl ?_
      obtain ⟨w3, ew3, hf⟩ := ab_bind hf
      refine ab_callV (pc2 := 18) (st := []) rfl ht0 (by decide) (m_X11_playList (d := (d + 0)) ht0 ew3) mf_X11_playList tw_197 tw_196 ts_X11_playList (Or.inl (by decide +kernel)) dX11_lasts_15 rfl (by omega) (Nat.le_refl _) (Nat.le_refl _) rfl (Nat.le_of_ble_eq_true rfl) (fun v u hp => ?_)
      obtain ⟨rfl, rfl⟩ := hp
      show ab_T _ _ _ _ 0 0 18 _ (.int _ :: []) _ _
      refine ab_istore (pc2 := 20) (lo2 := [some (va_rf _), some (.int _), some (.int _), some (.int _), some (.int _)]) dX11_lasts_18 rfl (by decide) rfl ?_
      refine ab_iload (pc2 := 22) dX11_lasts_20 rfl rfl ?_
      refine ab_if_eq (tgt := 30) (pc2 := 25) dX11_lasts_22 (by decide) rfl hf (fun c4 hf => ?_) (fun c4 hf => ?_)
      · refine ab_aload_n (x := _) (pc2 := 31) dX11_lasts_30 rfl rfl ?_
        refine ab_getR (pc2 := 34) rfl ht0 fa_X11_25 dX11_lasts_31 rfl (fun T5 => ?_)
        obtain ⟨q6, hq6, hf⟩ := ab_bind hf
        refine ab_getI (pc2 := 37) hq6 (T5 q6 hq6) fa_X11_155 (by decide) dX11_lasts_34 rfl ?_
        refine ab_iload_n (pc2 := 38) dX11_lasts_37 rfl rfl ?_
        refine ab_ishr (pc2 := 39) dX11_lasts_38 rfl ?_
        refine ab_iconst (pc2 := 40) (v := 1) dX11_lasts_39 rfl ab_k_iconst_1 ?_
        refine ab_iand (pc2 := 41) dX11_lasts_40 rfl ?_
        cases Option.some.inj hf
        exact ab_retI dX11_lasts_41 (Or.inl rfl) (Nat.le_refl _) (Nat.le_refl _) ⟨rfl, rfl⟩
      · refine ab_iload (pc2 := 27) dX11_lasts_25 rfl rfl ?_
        refine ab_goto (tgt := 41) dX11_lasts_27 (by decide) ?_
        cases Option.some.inj hf
        exact ab_retI dX11_lasts_41 (Or.inl rfl) (Nat.le_refl _) (Nat.le_refl _) ⟨rfl, rfl⟩
    · refine ab_iconst (pc2 := 11) (v := (-1)) dX11_lasts_10 rfl ab_k_iconst_m1 ?_
      cases Option.some.inj hf
      exact ab_retI dX11_lasts_11 (Or.inl rfl) (Nat.le_refl _) (Nat.le_refl _) ⟨rfl, rfl⟩
set_option maxHeartbeats 4000000 in
set_option maxRecDepth 100000 in
theorem m_X11_lasts {d : Nat} {t0 : Nat} {i1 : Int32} {i2 : Int32} {i3 : Int32} {h : ab_HP} {r : (Int32 × ab_HP)} (ht0 : (ab_shp t0).1 = 0) (hf : f_X11_lasts t0 i1 i2 i3 h = some r) : ab_MET mX11_lasts (d + 6) 0 0 [va_rf (some t0), .int i1, .int i2, .int i3] h (ab_Pi r.1 r.2) := ab_met (by decide +kernel) (by decide +kernel) (Nat.le_of_ble_eq_true rfl) rfl (x_X11_lasts ht0 hf)
set_option maxHeartbeats 4000000 in
set_option maxRecDepth 100000 in
theorem x_X11_why {d : Nat} {t0 : Nat} {i1 : Int32} {i2 : Int32} {i3 : Int32} {h : ab_HP} {r : (Int32 × ab_HP)} (ht0 : (ab_shp t0).1 = 0) (hf : f_X11_why t0 i1 i2 i3 h = some r) : ab_T mX11_why (d + 6) 0 0 0 0 0 [some (va_rf (some t0)), some (.int i1), some (.int i2), some (.int i3), none] [] h (ab_Pi r.1 r.2) := by
  unfold f_X11_why at hf
  refine ab_aload_n (x := _) (pc2 := 1) dX11_why_0 rfl rfl ?_
  refine ab_iload_n (pc2 := 2) dX11_why_1 rfl rfl ?_
  refine ab_iload_n (pc2 := 3) dX11_why_2 rfl rfl ?_
  obtain ⟨w1, ew1, hf⟩ := ab_bind hf
  refine ab_callV (pc2 := 6) (st := []) rfl ht0 (by decide) (m_X11_playList (d := (d + 0)) ht0 ew1) mf_X11_playList tw_197 tw_196 ts_X11_playList (Or.inl (by decide +kernel)) dX11_why_3 rfl (by omega) (Nat.le_refl _) (Nat.le_refl _) rfl (Nat.le_of_ble_eq_true rfl) (fun v u hp => ?_)
  obtain ⟨rfl, rfl⟩ := hp
  show ab_T _ _ _ _ 0 0 6 _ (.int _ :: []) _ _
  refine ab_istore (pc2 := 8) (lo2 := [some (va_rf _), some (.int _), some (.int _), some (.int _), some (.int _)]) dX11_why_6 rfl (by decide) rfl ?_
  refine ab_iload (pc2 := 10) dX11_why_8 rfl rfl ?_
  refine ab_if_eq (tgt := 16) (pc2 := 13) dX11_why_10 (by decide) rfl hf (fun c2 hf => ?_) (fun c2 hf => ?_)
  · refine ab_iload_n (pc2 := 17) dX11_why_16 rfl rfl ?_
    refine ab_if_lt (tgt := 31) (pc2 := 20) dX11_why_17 (by decide) rfl hf (fun c3 hf => ?_) (fun c3 hf => ?_)
    · refine ab_bipush (pc2 := 33) (v := (-13)) dX11_why_31 rfl ab_k_bipush_m13 ?_
      refine ab_goto (tgt := 44) dX11_why_33 (by decide) ?_
      cases Option.some.inj hf
      exact ab_retI dX11_why_44 (Or.inl rfl) (Nat.le_refl _) (Nat.le_refl _) ⟨rfl, rfl⟩
    · refine ab_iload_n (pc2 := 21) dX11_why_20 rfl rfl ?_
      refine ab_aload_n (x := _) (pc2 := 22) dX11_why_21 rfl rfl ?_
      refine ab_getR (pc2 := 25) rfl ht0 fa_X11_25 dX11_why_22 rfl (fun T4 => ?_)
      obtain ⟨q5, hq5, hf⟩ := ab_bind hf
      refine ab_getI (pc2 := 28) hq5 (T4 q5 hq5) fa_X11_156 (by decide) dX11_why_25 rfl ?_
      refine ab_icmp_lt (tgt := 36) (pc2 := 31) dX11_why_28 (by decide) rfl hf (fun c6 hf => ?_) (fun c6 hf => ?_)
      · refine ab_aload_n (x := _) (pc2 := 37) dX11_why_36 rfl rfl ?_
        refine ab_getR (pc2 := 40) rfl ht0 fa_X11_25 dX11_why_37 rfl (fun T7 => ?_)
        refine ab_iload_n (pc2 := 41) dX11_why_40 rfl rfl ?_
        obtain ⟨q8, hq8, hf⟩ := ab_bind hf
        obtain ⟨w9, ew9, hf⟩ := ab_bind hf
        refine ab_callV (pc2 := 44) (st := []) hq8 (T7 q8 hq8) (by decide) (m_X10_fate (d := (d + 4)) (T7 q8 hq8) ew9) mf_X10_fate tw_239 tw_238 ts_X10_fate (Or.inl (by decide +kernel)) dX11_why_41 rfl (by omega) (Nat.le_refl _) (Nat.le_refl _) rfl (Nat.le_of_ble_eq_true rfl) (fun v u hp => ?_)
        obtain ⟨rfl, rfl⟩ := hp
        show ab_T _ _ _ _ 0 0 44 _ (.int _ :: []) _ _
        cases Option.some.inj hf
        exact ab_retI dX11_why_44 (Or.inl rfl) (Nat.le_refl _) (Nat.le_refl _) ⟨rfl, rfl⟩
      · refine ab_bipush (pc2 := 33) (v := (-13)) dX11_why_31 rfl ab_k_bipush_m13 ?_
        refine ab_goto (tgt := 44) dX11_why_33 (by decide) ?_
        cases Option.some.inj hf
        exact ab_retI dX11_why_44 (Or.inl rfl) (Nat.le_refl _) (Nat.le_refl _) ⟨rfl, rfl⟩
  · refine ab_iload (pc2 := 15) dX11_why_13 rfl rfl ?_
    cases Option.some.inj hf
    exact ab_retI dX11_why_15 (Or.inl rfl) (Nat.le_refl _) (Nat.le_refl _) ⟨rfl, rfl⟩
set_option maxHeartbeats 4000000 in
set_option maxRecDepth 100000 in
theorem m_X11_why {d : Nat} {t0 : Nat} {i1 : Int32} {i2 : Int32} {i3 : Int32} {h : ab_HP} {r : (Int32 × ab_HP)} (ht0 : (ab_shp t0).1 = 0) (hf : f_X11_why t0 i1 i2 i3 h = some r) : ab_MET mX11_why (d + 6) 0 0 [va_rf (some t0), .int i1, .int i2, .int i3] h (ab_Pi r.1 r.2) := ab_met (by decide +kernel) (by decide +kernel) (Nat.le_of_ble_eq_true rfl) rfl (x_X11_why ht0 hf)
set_option maxHeartbeats 4000000 in
set_option maxRecDepth 100000 in
theorem x_X11_behind {d : Nat} {t0 : Nat} {i1 : Int32} {i2 : Int32} {i3 : Int32} {h : ab_HP} {r : (Int32 × ab_HP)} (ht0 : (ab_shp t0).1 = 0) (hf : f_X11_behind t0 i1 i2 i3 h = some r) : ab_T mX11_behind (d + 6) 0 0 0 0 0 [some (va_rf (some t0)), some (.int i1), some (.int i2), some (.int i3), none] [] h (ab_Pi r.1 r.2) := by
  unfold f_X11_behind at hf
  refine ab_iload_n (pc2 := 1) dX11_behind_0 rfl rfl ?_
  refine ab_if_lt (tgt := 9) (pc2 := 4) dX11_behind_1 (by decide) rfl hf (fun c1 hf => ?_) (fun c1 hf => ?_)
  · refine ab_iconst (pc2 := 10) (v := (-1)) dX11_behind_9 rfl ab_k_iconst_m1 ?_
    cases Option.some.inj hf
    exact ab_retI dX11_behind_10 (Or.inl rfl) (Nat.le_refl _) (Nat.le_refl _) ⟨rfl, rfl⟩
  · refine ab_iload_n (pc2 := 5) dX11_behind_4 rfl rfl ?_
    refine ab_iconst (pc2 := 6) (v := 3) dX11_behind_5 rfl ab_k_iconst_3 ?_
    refine ab_icmp_le (tgt := 11) (pc2 := 9) dX11_behind_6 (by decide) rfl hf (fun c2 hf => ?_) (fun c2 hf => ?_)
    · refine ab_aload_n (x := _) (pc2 := 12) dX11_behind_11 rfl rfl ?_
      refine ab_iload_n (pc2 := 13) dX11_behind_12 rfl rfl ?_
      refine ab_iload_n (pc2 := 14) dX11_behind_13 rfl rfl ?_
      obtain ⟨w3, ew3, hf⟩ := ab_bind hf
      refine ab_callV (pc2 := 17) (st := []) rfl ht0 (by decide) (m_X11_playList (d := (d + 0)) ht0 ew3) mf_X11_playList tw_197 tw_196 ts_X11_playList (Or.inl (by decide +kernel)) dX11_behind_14 rfl (by omega) (Nat.le_refl _) (Nat.le_refl _) rfl (Nat.le_of_ble_eq_true rfl) (fun v u hp => ?_)
      obtain ⟨rfl, rfl⟩ := hp
      show ab_T _ _ _ _ 0 0 17 _ (.int _ :: []) _ _
      refine ab_istore (pc2 := 19) (lo2 := [some (va_rf _), some (.int _), some (.int _), some (.int _), some (.int _)]) dX11_behind_17 rfl (by decide) rfl ?_
      refine ab_iload (pc2 := 21) dX11_behind_19 rfl rfl ?_
      refine ab_if_eq (tgt := 27) (pc2 := 24) dX11_behind_21 (by decide) rfl hf (fun c4 hf => ?_) (fun c4 hf => ?_)
      · refine ab_iload_n (pc2 := 28) dX11_behind_27 rfl rfl ?_
        rcases ab_cas hf with ⟨s5, hf⟩ | ⟨s5, hf⟩
        · refine ab_tswK (tgt := 56) dX11_behind_28 s5 (by decide) (by decide) (by decide +kernel) (by decide) ?_
          refine ab_aload_n (x := _) (pc2 := 57) dX11_behind_56 rfl rfl ?_
          refine ab_getR (pc2 := 60) rfl ht0 fa_X11_25 dX11_behind_57 rfl (fun T6 => ?_)
          obtain ⟨q7, hq7, hf⟩ := ab_bind hf
          refine ab_getI (pc2 := 63) hq7 (T6 q7 hq7) fa_X11_155 (by decide) dX11_behind_60 rfl ?_
          cases Option.some.inj hf
          exact ab_retI dX11_behind_63 (Or.inl rfl) (Nat.le_refl _) (Nat.le_refl _) ⟨rfl, rfl⟩
        rcases ab_cas hf with ⟨s8, hf⟩ | ⟨s8, hf⟩
        · refine ab_tswK (tgt := 64) dX11_behind_28 s8 (by decide) (by decide) (by decide +kernel) (by decide) ?_
          refine ab_aload_n (x := _) (pc2 := 65) dX11_behind_64 rfl rfl ?_
          refine ab_getR (pc2 := 68) rfl ht0 fa_X11_25 dX11_behind_65 rfl (fun T9 => ?_)
          obtain ⟨q10, hq10, hf⟩ := ab_bind hf
          refine ab_getI (pc2 := 71) hq10 (T9 q10 hq10) fa_X11_162 (by decide) dX11_behind_68 rfl ?_
          cases Option.some.inj hf
          exact ab_retI dX11_behind_71 (Or.inl rfl) (Nat.le_refl _) (Nat.le_refl _) ⟨rfl, rfl⟩
        rcases ab_cas hf with ⟨s11, hf⟩ | ⟨s11, hf⟩
        · refine ab_tswK (tgt := 72) dX11_behind_28 s11 (by decide) (by decide) (by decide +kernel) (by decide) ?_
          refine ab_aload_n (x := _) (pc2 := 73) dX11_behind_72 rfl rfl ?_
          refine ab_getR (pc2 := 76) rfl ht0 fa_X11_25 dX11_behind_73 rfl (fun T12 => ?_)
          obtain ⟨q13, hq13, hf⟩ := ab_bind hf
          refine ab_getI (pc2 := 79) hq13 (T12 q13 hq13) fa_X11_163 (by decide) dX11_behind_76 rfl ?_
          obtain ⟨w14, ew14, hf⟩ := ab_bind hf
          refine ab_callS (pc2 := 82) (st := []) (m_J6_bitCount_0f7a4 (d := (d + 5)) ew14) mf_J6_bitCount_0f7a4 tw_202 tw_203 dX11_behind_79 rfl (by omega) (Nat.le_refl _) (Nat.le_refl _) rfl (Nat.le_of_ble_eq_true rfl) (fun v u hp => ?_)
          obtain ⟨rfl, rfl⟩ := hp
          show ab_T _ _ _ _ 0 0 82 _ (.int _ :: []) _ _
          cases Option.some.inj hf
          exact ab_retI dX11_behind_82 (Or.inl rfl) (Nat.le_refl _) (Nat.le_refl _) ⟨rfl, rfl⟩
        have s5n := lv_neT s5 (by decide : (0 : Int32).toInt = 0)
        have s8n := lv_neT s8 (by decide : (1 : Int32).toInt = 1)
        have s11n := lv_neT s11 (by decide : (2 : Int32).toInt = 2)
        refine ab_tswOut (tgt := 83) dX11_behind_28 (by omega) (by decide) ?_
        refine ab_aload_n (x := _) (pc2 := 84) dX11_behind_83 rfl rfl ?_
        refine ab_getR (pc2 := 87) rfl ht0 fa_X11_25 dX11_behind_84 rfl (fun T15 => ?_)
        obtain ⟨q16, hq16, hf⟩ := ab_bind hf
        refine ab_getI (pc2 := 90) hq16 (T15 q16 hq16) fa_X11_166 (by decide) dX11_behind_87 rfl ?_
        cases Option.some.inj hf
        exact ab_retI dX11_behind_90 (Or.inl rfl) (Nat.le_refl _) (Nat.le_refl _) ⟨rfl, rfl⟩
      · refine ab_iload (pc2 := 26) dX11_behind_24 rfl rfl ?_
        cases Option.some.inj hf
        exact ab_retI dX11_behind_26 (Or.inl rfl) (Nat.le_refl _) (Nat.le_refl _) ⟨rfl, rfl⟩
    · refine ab_iconst (pc2 := 10) (v := (-1)) dX11_behind_9 rfl ab_k_iconst_m1 ?_
      cases Option.some.inj hf
      exact ab_retI dX11_behind_10 (Or.inl rfl) (Nat.le_refl _) (Nat.le_refl _) ⟨rfl, rfl⟩
set_option maxHeartbeats 4000000 in
set_option maxRecDepth 100000 in
theorem m_X11_behind {d : Nat} {t0 : Nat} {i1 : Int32} {i2 : Int32} {i3 : Int32} {h : ab_HP} {r : (Int32 × ab_HP)} (ht0 : (ab_shp t0).1 = 0) (hf : f_X11_behind t0 i1 i2 i3 h = some r) : ab_MET mX11_behind (d + 6) 0 0 [va_rf (some t0), .int i1, .int i2, .int i3] h (ab_Pi r.1 r.2) := ab_met (by decide +kernel) (by decide +kernel) (Nat.le_of_ble_eq_true rfl) rfl (x_X11_behind ht0 hf)
set_option maxHeartbeats 4000000 in
set_option maxRecDepth 100000 in
theorem x_X11_areMarks {d : Nat} {i0 : Int32} {h : ab_HP} {r : Int32}  (hf : f_X11_areMarks i0 h = some r) : ab_T mX11_areMarks (d + 0) 0 0 0 0 0 [some (.int i0)] [] h (ab_Pb r h) := by
  unfold f_X11_areMarks at hf
  refine ab_iload_n (pc2 := 1) dX11_areMarks_0 rfl rfl ?_
  refine ab_if_lt (tgt := 15) (pc2 := 4) dX11_areMarks_1 (by decide) rfl hf (fun c1 hf => ?_) (fun c1 hf => ?_)
  · refine ab_iconst (pc2 := 16) (v := 0) dX11_areMarks_15 rfl ab_k_iconst_0 ?_
    cases Option.some.inj hf
    exact ab_retI dX11_areMarks_16 (Or.inr ⟨rfl, (Or.inl rfl)⟩) (Nat.le_refl _) (Nat.le_refl _) ⟨rfl, rfl, (Or.inl rfl)⟩
  · refine ab_iload_n (pc2 := 5) dX11_areMarks_4 rfl rfl ?_
    refine ab_sipush (pc2 := 8) (v := 1023) dX11_areMarks_5 rfl ab_k_sipush_1023 ?_
    refine ab_icmp_gt (tgt := 15) (pc2 := 11) dX11_areMarks_8 (by decide) rfl hf (fun c2 hf => ?_) (fun c2 hf => ?_)
    · refine ab_iconst (pc2 := 16) (v := 0) dX11_areMarks_15 rfl ab_k_iconst_0 ?_
      cases Option.some.inj hf
      exact ab_retI dX11_areMarks_16 (Or.inr ⟨rfl, (Or.inl rfl)⟩) (Nat.le_refl _) (Nat.le_refl _) ⟨rfl, rfl, (Or.inl rfl)⟩
    · refine ab_iconst (pc2 := 12) (v := 1) dX11_areMarks_11 rfl ab_k_iconst_1 ?_
      refine ab_goto (tgt := 16) dX11_areMarks_12 (by decide) ?_
      cases Option.some.inj hf
      exact ab_retI dX11_areMarks_16 (Or.inr ⟨rfl, (Or.inr rfl)⟩) (Nat.le_refl _) (Nat.le_refl _) ⟨rfl, rfl, (Or.inr rfl)⟩
set_option maxHeartbeats 4000000 in
set_option maxRecDepth 100000 in
theorem m_X11_areMarks {d : Nat} {i0 : Int32} {h : ab_HP} {r : Int32}  (hf : f_X11_areMarks i0 h = some r) : ab_MET mX11_areMarks (d + 0) 0 0 [.int i0] h (ab_Pb r h) := ab_met (by decide +kernel) (by decide +kernel) (Nat.le_of_ble_eq_true rfl) rfl (x_X11_areMarks  hf)
set_option maxHeartbeats 4000000 in
set_option maxRecDepth 100000 in
theorem x_X11_least {d : Nat} {t0 : Nat} {i1 : Int32} {i2 : Int32} {i3 : Int32} {h : ab_HP} {r : (Int32 × ab_HP)} (ht0 : (ab_shp t0).1 = 0) (hf : f_X11_least t0 i1 i2 i3 h = some r) : ab_T mX11_least (d + 6) 0 0 0 0 0 [some (va_rf (some t0)), some (.int i1), some (.int i2), some (.int i3), none, none] [] h (ab_Pi r.1 r.2) := by
  unfold f_X11_least at hf
  refine ab_iload_n (pc2 := 1) dX11_least_0 rfl rfl ?_
  obtain ⟨w1, ew1, hf⟩ := ab_bind hf
  refine ab_callS (pc2 := 4) (st := []) (m_X11_areMarks (d := (d + 5)) ew1) mf_X11_areMarks tw_242 tw_243 dX11_least_1 rfl (by omega) (Nat.le_refl _) (Nat.le_refl _) rfl (Nat.le_of_ble_eq_true rfl) (fun v u hp => ?_)
  obtain ⟨rfl, rfl, z2⟩ := hp
  show ab_T _ _ _ _ 0 0 4 _ (.int _ :: []) _ _
  refine ab_if_eq (tgt := 16) (pc2 := 7) dX11_least_4 (by decide) rfl hf (fun c3 hf => ?_) (fun c3 hf => ?_)
  · refine ab_iconst (pc2 := 17) (v := (-1)) dX11_least_16 rfl ab_k_iconst_m1 ?_
    cases Option.some.inj hf
    exact ab_retI dX11_least_17 (Or.inl rfl) (Nat.le_refl _) (Nat.le_refl _) ⟨rfl, rfl⟩
  · refine ab_iload_n (pc2 := 8) dX11_least_7 rfl rfl ?_
    refine ab_if_lt (tgt := 16) (pc2 := 11) dX11_least_8 (by decide) rfl hf (fun c4 hf => ?_) (fun c4 hf => ?_)
    · refine ab_iconst (pc2 := 17) (v := (-1)) dX11_least_16 rfl ab_k_iconst_m1 ?_
      cases Option.some.inj hf
      exact ab_retI dX11_least_17 (Or.inl rfl) (Nat.le_refl _) (Nat.le_refl _) ⟨rfl, rfl⟩
    · refine ab_iload_n (pc2 := 12) dX11_least_11 rfl rfl ?_
      refine ab_iconst (pc2 := 13) (v := 2) dX11_least_12 rfl ab_k_iconst_2 ?_
      refine ab_icmp_le (tgt := 18) (pc2 := 16) dX11_least_13 (by decide) rfl hf (fun c5 hf => ?_) (fun c5 hf => ?_)
      · refine ab_aload_n (x := _) (pc2 := 19) dX11_least_18 rfl rfl ?_
        refine ab_iload_n (pc2 := 20) dX11_least_19 rfl rfl ?_
        obtain ⟨w6, ew6, hf⟩ := ab_bind hf
        refine ab_callV (pc2 := 23) (st := []) rfl ht0 (by decide) (m_X11_takeList (d := (d + 2)) ht0 ew6) mf_X11_takeList tw_193 tw_192 ts_X11_takeList (Or.inl (by decide +kernel)) dX11_least_20 rfl (by omega) (Nat.le_refl _) (Nat.le_refl _) rfl (Nat.le_of_ble_eq_true rfl) (fun v u hp => ?_)
        obtain ⟨rfl, rfl⟩ := hp
        show ab_T _ _ _ _ 0 0 23 _ (.int _ :: []) _ _
        refine ab_istore (pc2 := 25) (lo2 := [some (va_rf _), some (.int _), some (.int _), some (.int _), some (.int _), none]) dX11_least_23 rfl (by decide) rfl ?_
        refine ab_iload (pc2 := 27) dX11_least_25 rfl rfl ?_
        refine ab_if_eq (tgt := 33) (pc2 := 30) dX11_least_27 (by decide) rfl hf (fun c7 hf => ?_) (fun c7 hf => ?_)
        · refine ab_aload_n (x := _) (pc2 := 34) dX11_least_33 rfl rfl ?_
          refine ab_getR (pc2 := 37) rfl ht0 fa_X11_25 dX11_least_34 rfl (fun T8 => ?_)
          refine ab_iload_n (pc2 := 38) dX11_least_37 rfl rfl ?_
          obtain ⟨q9, hq9, hf⟩ := ab_bind hf
          obtain ⟨w10, ew10, hf⟩ := ab_bind hf
          refine ab_callV (pc2 := 41) (st := []) hq9 (T8 q9 hq9) (by decide) (m_X10_leastNails (d := (d + 0)) (T8 q9 hq9) ew10) mf_X10_leastNails tw_245 tw_244 ts_X10_leastNails (Or.inl (by decide +kernel)) dX11_least_38 rfl (by omega) (Nat.le_refl _) (Nat.le_refl _) rfl (Nat.le_of_ble_eq_true rfl) (fun v u hp => ?_)
          obtain ⟨rfl, rfl⟩ := hp
          show ab_T _ _ _ _ 0 0 41 _ (.int _ :: []) _ _
          refine ab_istore (pc2 := 43) (lo2 := [some (va_rf _), some (.int _), some (.int _), some (.int _), some (.int _), some (.int _)]) dX11_least_41 rfl (by decide) rfl ?_
          refine ab_iload (pc2 := 45) dX11_least_43 rfl rfl ?_
          refine ab_if_ge (tgt := 51) (pc2 := 48) dX11_least_45 (by decide) rfl hf (fun c11 hf => ?_) (fun c11 hf => ?_)
          · refine ab_iload_n (pc2 := 52) dX11_least_51 rfl rfl ?_
            refine ab_if_ne (tgt := 61) (pc2 := 55) dX11_least_52 (by decide) rfl hf (fun c12 hf => ?_) (fun c12 hf => ?_)
            · refine ab_iload_n (pc2 := 62) dX11_least_61 rfl rfl ?_
              refine ab_iconst (pc2 := 63) (v := 2) dX11_least_62 rfl ab_k_iconst_2 ?_
              refine ab_icmp_ne (tgt := 69) (pc2 := 66) dX11_least_63 (by decide) rfl hf (fun c13 hf => ?_) (fun c13 hf => ?_)
              · refine ab_aload_n (x := _) (pc2 := 70) dX11_least_69 rfl rfl ?_
                refine ab_getR (pc2 := 73) rfl ht0 fa_X11_25 dX11_least_70 rfl (fun T14 => ?_)
                refine ab_iload (pc2 := 75) dX11_least_73 rfl rfl ?_
                obtain ⟨q15, hq15, hf⟩ := ab_bind hf
                obtain ⟨w16, ew16, hf⟩ := ab_bind hf
                refine ab_callV (pc2 := 78) (st := []) hq15 (T14 q15 hq15) (by decide) (m_X10_play (d := (d + 1)) (T14 q15 hq15) ew16) mf_X10_play tw_195 tw_194 ts_X10_play (Or.inl (by decide +kernel)) dX11_least_75 rfl (by omega) (Nat.le_refl _) (Nat.le_refl _) rfl (Nat.le_of_ble_eq_true rfl) (fun v u hp => ?_)
                obtain ⟨rfl, rfl⟩ := hp
                show ab_T _ _ _ _ 0 0 78 _ ([]) _ _
                refine ab_aload_n (x := _) (pc2 := 79) dX11_least_78 rfl rfl ?_
                refine ab_getR (pc2 := 82) rfl ht0 fa_X11_25 dX11_least_79 rfl (fun T17 => ?_)
                obtain ⟨q18, hq18, hf⟩ := ab_bind hf
                refine ab_getI (pc2 := 85) hq18 (T17 q18 hq18) fa_X11_166 (by decide) dX11_least_82 rfl ?_
                cases Option.some.inj hf
                exact ab_retI dX11_least_85 (Or.inl rfl) (Nat.le_refl _) (Nat.le_refl _) ⟨rfl, rfl⟩
              · refine ab_iload (pc2 := 68) dX11_least_66 rfl rfl ?_
                cases Option.some.inj hf
                exact ab_retI dX11_least_68 (Or.inl rfl) (Nat.le_refl _) (Nat.le_refl _) ⟨rfl, rfl⟩
            · refine ab_iload (pc2 := 57) dX11_least_55 rfl rfl ?_
              obtain ⟨w19, ew19, hf⟩ := ab_bind hf
              refine ab_callS (pc2 := 60) (st := []) (m_J6_bitCount_0f7a4 (d := (d + 5)) ew19) mf_J6_bitCount_0f7a4 tw_202 tw_203 dX11_least_57 rfl (by omega) (Nat.le_refl _) (Nat.le_refl _) rfl (Nat.le_of_ble_eq_true rfl) (fun v u hp => ?_)
              obtain ⟨rfl, rfl⟩ := hp
              show ab_T _ _ _ _ 0 0 60 _ (.int _ :: []) _ _
              cases Option.some.inj hf
              exact ab_retI dX11_least_60 (Or.inl rfl) (Nat.le_refl _) (Nat.le_refl _) ⟨rfl, rfl⟩
          · refine ab_bipush (pc2 := 50) (v := (-4)) dX11_least_48 rfl ab_k_bipush_m4 ?_
            cases Option.some.inj hf
            exact ab_retI dX11_least_50 (Or.inl rfl) (Nat.le_refl _) (Nat.le_refl _) ⟨rfl, rfl⟩
        · refine ab_iload (pc2 := 32) dX11_least_30 rfl rfl ?_
          cases Option.some.inj hf
          exact ab_retI dX11_least_32 (Or.inl rfl) (Nat.le_refl _) (Nat.le_refl _) ⟨rfl, rfl⟩
      · refine ab_iconst (pc2 := 17) (v := (-1)) dX11_least_16 rfl ab_k_iconst_m1 ?_
        cases Option.some.inj hf
        exact ab_retI dX11_least_17 (Or.inl rfl) (Nat.le_refl _) (Nat.le_refl _) ⟨rfl, rfl⟩
set_option maxHeartbeats 4000000 in
set_option maxRecDepth 100000 in
theorem m_X11_least {d : Nat} {t0 : Nat} {i1 : Int32} {i2 : Int32} {i3 : Int32} {h : ab_HP} {r : (Int32 × ab_HP)} (ht0 : (ab_shp t0).1 = 0) (hf : f_X11_least t0 i1 i2 i3 h = some r) : ab_MET mX11_least (d + 6) 0 0 [va_rf (some t0), .int i1, .int i2, .int i3] h (ab_Pi r.1 r.2) := ab_met (by decide +kernel) (by decide +kernel) (Nat.le_of_ble_eq_true rfl) rfl (x_X11_least ht0 hf)
set_option maxHeartbeats 4000000 in
set_option maxRecDepth 100000 in
theorem x_X11_takeOrder_l13 {d : Nat} {t0 : Nat} {r : ab_HP} (ht0 : (ab_shp t0).1 = 0) : ∀ (n : Nat) (i1 : Option Nat) (i2 : Int32) (h : ab_HP), (∀ z, i1 = some z → (ab_shp z).1 = 3) → f_X11_takeOrder_l13 t0 n i1 i2 h = some r → ab_T mX11_takeOrder (d + 2) 0 0 0 0 13 [some (va_rf (some t0)), some (va_rf i1), some (.int i2)] [] h (ab_Pv r) := by
  intro n
  induction n with
  | zero =>
    intro i1 i2 h T_i1 hf
    rw [f_X11_takeOrder_l13] at hf
    cases hf
  | succ n ih =>
    intro i1 i2 h T_i1 hf
    rw [f_X11_takeOrder_l13] at hf
    refine ab_iload_n (pc2 := 14) dX11_takeOrder_13 rfl rfl ?_
    refine ab_aload_n (x := _) (pc2 := 15) dX11_takeOrder_14 rfl rfl ?_
    obtain ⟨q5, hq5, hf⟩ := ab_bind hf
    refine ab_getI (pc2 := 18) hq5 (T_i1 q5 hq5) fa_X11_182 (by decide) dX11_takeOrder_15 rfl ?_
    refine ab_icmp_ge (tgt := 53) (pc2 := 21) dX11_takeOrder_18 (by decide) rfl hf (fun c6 hf => ?_) (fun c6 hf => ?_)
    · cases Option.some.inj hf
      exact ab_retV dX11_takeOrder_53 rfl (Nat.le_refl _) (Nat.le_refl _) ⟨rfl, rfl⟩
    · refine ab_aload_n (x := _) (pc2 := 22) dX11_takeOrder_21 rfl rfl ?_
      refine ab_getR (pc2 := 25) rfl ht0 fa_X11_25 dX11_takeOrder_22 rfl (fun T7 => ?_)
      refine ab_aload_n (x := _) (pc2 := 26) dX11_takeOrder_25 rfl rfl ?_
      refine ab_getR (pc2 := 29) rfl ht0 fa_X11_10 dX11_takeOrder_26 rfl (fun T8 => ?_)
      refine ab_aload_n (x := _) (pc2 := 30) dX11_takeOrder_29 rfl rfl ?_
      refine ab_aload_n (x := _) (pc2 := 31) dX11_takeOrder_30 rfl rfl ?_
      refine ab_getR (pc2 := 34) rfl ht0 fa_X11_35 dX11_takeOrder_31 rfl (fun T9 => ?_)
      refine ab_iload_n (pc2 := 35) dX11_takeOrder_34 rfl rfl ?_
      obtain ⟨w10, ew10, hf⟩ := ab_bind hf
      refine ab_callS (pc2 := 38) (st := [_, _, _]) (m_X11_at (d := (d + 1)) T9 ew10) mf_X11_at tw_251 tw_23 dX11_takeOrder_35 rfl (by omega) (Nat.le_refl _) (Nat.le_refl _) rfl (Nat.le_of_ble_eq_true rfl) (fun v u hp => ?_)
      obtain ⟨rfl, rfl⟩ := hp
      show ab_T _ _ _ _ 0 0 38 _ (.int _ :: [_, _, _]) _ _
      obtain ⟨w11, ew11, hf⟩ := ab_bind hf
      refine ab_callV (pc2 := 41) (st := [_, _]) hq5 (T_i1 q5 hq5) (by decide) (m_X6_read (d := (d + 0)) (T_i1 q5 hq5) ew11) mf_X6_read tw_154 tw_24 ts_X6_read (Or.inl (by decide +kernel)) dX11_takeOrder_38 rfl (by omega) (Nat.le_refl _) (Nat.le_refl _) rfl (Nat.le_of_ble_eq_true rfl) (fun v u hp => ?_)
      obtain ⟨rfl, rfl⟩ := hp
      show ab_T _ _ _ _ 0 0 41 _ (.int _ :: [_, _]) _ _
      obtain ⟨q12, hq12, hf⟩ := ab_bind hf
      obtain ⟨w13, ew13, hf⟩ := ab_bind hf
      refine ab_callV (pc2 := 44) (st := [_]) hq12 (T8 q12 hq12) (by decide) (m_X9_deedAt (d := (d + 1)) (T8 q12 hq12) ew13) mf_X9_deedAt tw_127 tw_18 ts_X9_deedAt (Or.inl (by decide +kernel)) dX11_takeOrder_41 rfl (by omega) (Nat.le_refl _) (Nat.le_refl _) rfl (Nat.le_of_ble_eq_true rfl) (fun v u hp => ?_)
      obtain ⟨rfl, rfl, T14⟩ := hp
      show ab_T _ _ _ _ 0 0 44 _ (va_rf _ :: [_]) _ _
      obtain ⟨q15, hq15, hf⟩ := ab_bind hf
      obtain ⟨w16, ew16, hf⟩ := ab_bind hf
      refine ab_callV (pc2 := 47) (st := []) hq15 (T7 q15 hq15) (by decide) (m_X10_add (d := (d + 1)) (T7 q15 hq15) T14 ew16) mf_X10_add tw_160 tw_159 ts_X10_add (Or.inl (by decide +kernel)) dX11_takeOrder_44 rfl (by omega) (Nat.le_refl _) (Nat.le_refl _) rfl (Nat.le_of_ble_eq_true rfl) (fun v u hp => ?_)
      obtain ⟨rfl, rfl⟩ := hp
      show ab_T _ _ _ _ 0 0 47 _ ([]) _ _
      refine ab_iinc (pc2 := 50) (v := _ + 1) (lo2 := [some (va_rf _), some (va_rf _), some (.int _)]) dX11_takeOrder_47 rfl rfl rfl (by decide) rfl ?_
      refine ab_goto (tgt := 13) dX11_takeOrder_50 (by decide) ?_
      exact ab_weak (ih _ _ _ T_i1 hf) (ab_leS (ab_leS (ab_leS ab_le0)))
set_option maxHeartbeats 4000000 in
set_option maxRecDepth 100000 in
theorem x_X11_takeOrder {d : Nat} {t0 : Nat} {i1 : Option Nat} {h : ab_HP} {r : ab_HP} (ht0 : (ab_shp t0).1 = 0) (T_i1 : ∀ z, i1 = some z → (ab_shp z).1 = 3) (hf : f_X11_takeOrder t0 i1 h = some r) : ab_T mX11_takeOrder (d + 2) 0 0 0 0 0 [some (va_rf (some t0)), some (va_rf i1), none] [] h (ab_Pv r) := by
  unfold f_X11_takeOrder at hf
  refine ab_aload_n (x := _) (pc2 := 1) dX11_takeOrder_0 rfl rfl ?_
  refine ab_getR (pc2 := 4) rfl ht0 fa_X11_25 dX11_takeOrder_1 rfl (fun T1 => ?_)
  refine ab_aload_n (x := _) (pc2 := 5) dX11_takeOrder_4 rfl rfl ?_
  refine ab_getR (pc2 := 8) rfl ht0 fa_X11_10 dX11_takeOrder_5 rfl (fun T2 => ?_)
  obtain ⟨q3, hq3, hf⟩ := ab_bind hf
  obtain ⟨w4, ew4, hf⟩ := ab_bind hf
  refine ab_callV (pc2 := 11) (st := []) hq3 (T1 q3 hq3) (by decide) (m_X10_open (d := (d + 1)) (T1 q3 hq3) T2 ew4) mf_X10_open tw_158 tw_157 ts_X10_open (Or.inl (by decide +kernel)) dX11_takeOrder_8 rfl (by omega) (Nat.le_refl _) (Nat.le_refl _) rfl (Nat.le_of_ble_eq_true rfl) (fun v u hp => ?_)
  obtain ⟨rfl, rfl⟩ := hp
  show ab_T _ _ _ _ 0 0 11 _ ([]) _ _
  refine ab_iconst (pc2 := 12) (v := 0) dX11_takeOrder_11 rfl ab_k_iconst_0 ?_
  refine ab_istore_n (pc2 := 13) (lo2 := [some (va_rf _), some (va_rf _), some (.int _)]) dX11_takeOrder_12 rfl (by decide) rfl ?_
  exact ab_weak (x_X11_takeOrder_l13 ht0 _ _ _ _ T_i1 hf) (ab_leS (ab_leS (ab_leS ab_le0)))
set_option maxHeartbeats 4000000 in
set_option maxRecDepth 100000 in
theorem m_X11_takeOrder {d : Nat} {t0 : Nat} {i1 : Option Nat} {h : ab_HP} {r : ab_HP} (ht0 : (ab_shp t0).1 = 0) (T_i1 : ∀ z, i1 = some z → (ab_shp z).1 = 3) (hf : f_X11_takeOrder t0 i1 h = some r) : ab_MET mX11_takeOrder (d + 2) 0 0 [va_rf (some t0), va_rf i1] h (ab_Pv r) := ab_met (by decide +kernel) (by decide +kernel) (by simp [ab_lo, ab_rf1, Value.category]) (by simp [ab_lo0, ab_lo, ab_rf1, Value.category, List.replicate]) (x_X11_takeOrder ht0 T_i1 hf)
set_option maxHeartbeats 4000000 in
set_option maxRecDepth 100000 in
theorem x_X11_orderDigits_l6 {d : Nat} {t0 : Nat} {r : Int32} (ht0 : (ab_shp t0).1 = 0) : ∀ (n : Nat) (i2 : Int32) (i3 : Int32) (h : ab_HP), f_X11_orderDigits_l6 t0 n i2 i3 h = some r → ab_T mX11_orderDigits (d + 1) 0 0 0 0 6 [some (va_rf (some t0)), none, some (.int i2), some (.int i3)] [] h (ab_Pi r h) := by
  intro n
  induction n with
  | zero =>
    intro i2 i3 h hf
    rw [f_X11_orderDigits_l6] at hf
    cases hf
  | succ n ih =>
    intro i2 i3 h hf
    rw [f_X11_orderDigits_l6] at hf
    refine ab_iload_n (pc2 := 7) dX11_orderDigits_6 rfl rfl ?_
    refine ab_if_lt (tgt := 30) (pc2 := 10) dX11_orderDigits_7 (by decide) rfl hf (fun c1 hf => ?_) (fun c1 hf => ?_)
    · refine ab_iload_n (pc2 := 31) dX11_orderDigits_30 rfl rfl ?_
      cases Option.some.inj hf
      exact ab_retI dX11_orderDigits_31 (Or.inl rfl) (Nat.le_refl _) (Nat.le_refl _) ⟨rfl, rfl⟩
    · refine ab_bipush (pc2 := 12) (v := 10) dX11_orderDigits_10 rfl ab_k_bipush_10 ?_
      refine ab_iload_n (pc2 := 13) dX11_orderDigits_12 rfl rfl ?_
      refine ab_imul (pc2 := 14) dX11_orderDigits_13 rfl ?_
      refine ab_aload_n (x := _) (pc2 := 15) dX11_orderDigits_14 rfl rfl ?_
      refine ab_getR (pc2 := 18) rfl ht0 fa_X11_35 dX11_orderDigits_15 rfl (fun T2 => ?_)
      refine ab_iload_n (pc2 := 19) dX11_orderDigits_18 rfl rfl ?_
      obtain ⟨w3, ew3, hf⟩ := ab_bind hf
      refine ab_callS (pc2 := 22) (st := [_]) (m_X11_at (d := (d + 0)) T2 ew3) mf_X11_at tw_251 tw_23 dX11_orderDigits_19 rfl (by omega) (Nat.le_refl _) (Nat.le_refl _) rfl (Nat.le_of_ble_eq_true rfl) (fun v u hp => ?_)
      obtain ⟨rfl, rfl⟩ := hp
      show ab_T _ _ _ _ 0 0 22 _ (.int _ :: [_]) _ _
      refine ab_iadd (pc2 := 23) dX11_orderDigits_22 rfl ?_
      refine ab_istore_n (pc2 := 24) (lo2 := [some (va_rf _), none, some (.int _), some (.int _)]) dX11_orderDigits_23 rfl (by decide) rfl ?_
      refine ab_iinc (pc2 := 27) (v := _ + (-1)) (lo2 := [some (va_rf _), none, some (.int _), some (.int _)]) dX11_orderDigits_24 rfl rfl rfl (by decide) rfl ?_
      refine ab_goto (tgt := 6) dX11_orderDigits_27 (by decide) ?_
      exact ab_weak (ih _ _ _ hf) (ab_leS (ab_leN (ab_leS (ab_leS ab_le0))))
set_option maxHeartbeats 4000000 in
set_option maxRecDepth 100000 in
theorem x_X11_orderDigits {d : Nat} {t0 : Nat} {i1 : Int32} {h : ab_HP} {r : Int32} (ht0 : (ab_shp t0).1 = 0) (hf : f_X11_orderDigits t0 i1 h = some r) : ab_T mX11_orderDigits (d + 1) 0 0 0 0 0 [some (va_rf (some t0)), some (.int i1), none, none] [] h (ab_Pi r h) := by
  unfold f_X11_orderDigits at hf
  refine ab_iconst (pc2 := 1) (v := 0) dX11_orderDigits_0 rfl ab_k_iconst_0 ?_
  refine ab_istore_n (pc2 := 2) (lo2 := [some (va_rf _), some (.int _), some (.int _), none]) dX11_orderDigits_1 rfl (by decide) rfl ?_
  refine ab_iload_n (pc2 := 3) dX11_orderDigits_2 rfl rfl ?_
  refine ab_iconst (pc2 := 4) (v := 1) dX11_orderDigits_3 rfl ab_k_iconst_1 ?_
  refine ab_isub (pc2 := 5) dX11_orderDigits_4 rfl ?_
  refine ab_istore_n (pc2 := 6) (lo2 := [some (va_rf _), some (.int _), some (.int _), some (.int _)]) dX11_orderDigits_5 rfl (by decide) rfl ?_
  exact ab_weak (x_X11_orderDigits_l6 ht0 _ _ _ _ hf) (ab_leS (ab_leN (ab_leS (ab_leS ab_le0))))
set_option maxHeartbeats 4000000 in
set_option maxRecDepth 100000 in
theorem m_X11_orderDigits {d : Nat} {t0 : Nat} {i1 : Int32} {h : ab_HP} {r : Int32} (ht0 : (ab_shp t0).1 = 0) (hf : f_X11_orderDigits t0 i1 h = some r) : ab_MET mX11_orderDigits (d + 1) 0 0 [va_rf (some t0), .int i1] h (ab_Pi r h) := ab_met (by decide +kernel) (by decide +kernel) (Nat.le_of_ble_eq_true rfl) rfl (x_X11_orderDigits ht0 hf)
set_option maxHeartbeats 4000000 in
set_option maxRecDepth 100000 in
theorem x_X11_swapPlaces {d : Nat} {t0 : Nat} {i1 : Int32} {i2 : Int32} {h : ab_HP} {r : ab_HP} (ht0 : (ab_shp t0).1 = 0) (hf : f_X11_swapPlaces t0 i1 i2 h = some r) : ab_T mX11_swapPlaces (d + 1) 0 0 0 0 0 [some (va_rf (some t0)), some (.int i1), some (.int i2), none] [] h (ab_Pv r) := by
  unfold f_X11_swapPlaces at hf
  refine ab_aload_n (x := _) (pc2 := 1) dX11_swapPlaces_0 rfl rfl ?_
  refine ab_getR (pc2 := 4) rfl ht0 fa_X11_35 dX11_swapPlaces_1 rfl (fun T1 => ?_)
  refine ab_iload_n (pc2 := 5) dX11_swapPlaces_4 rfl rfl ?_
  obtain ⟨w2, ew2, hf⟩ := ab_bind hf
  refine ab_callS (pc2 := 8) (st := []) (m_X11_at (d := (d + 0)) T1 ew2) mf_X11_at tw_251 tw_23 dX11_swapPlaces_5 rfl (by omega) (Nat.le_refl _) (Nat.le_refl _) rfl (Nat.le_of_ble_eq_true rfl) (fun v u hp => ?_)
  obtain ⟨rfl, rfl⟩ := hp
  show ab_T _ _ _ _ 0 0 8 _ (.int _ :: []) _ _
  refine ab_istore_n (pc2 := 9) (lo2 := [some (va_rf _), some (.int _), some (.int _), some (.int _)]) dX11_swapPlaces_8 rfl (by decide) rfl ?_
  refine ab_aload_n (x := _) (pc2 := 10) dX11_swapPlaces_9 rfl rfl ?_
  refine ab_getR (pc2 := 13) rfl ht0 fa_X11_35 dX11_swapPlaces_10 rfl (fun T3 => ?_)
  refine ab_iload_n (pc2 := 14) dX11_swapPlaces_13 rfl rfl ?_
  refine ab_aload_n (x := _) (pc2 := 15) dX11_swapPlaces_14 rfl rfl ?_
  refine ab_getR (pc2 := 18) rfl ht0 fa_X11_35 dX11_swapPlaces_15 rfl (fun T4 => ?_)
  refine ab_iload_n (pc2 := 19) dX11_swapPlaces_18 rfl rfl ?_
  obtain ⟨w5, ew5, hf⟩ := ab_bind hf
  refine ab_callS (pc2 := 22) (st := [_, _]) (m_X11_at (d := (d + 0)) T4 ew5) mf_X11_at tw_251 tw_23 dX11_swapPlaces_19 rfl (by omega) (Nat.le_refl _) (Nat.le_refl _) rfl (Nat.le_of_ble_eq_true rfl) (fun v u hp => ?_)
  obtain ⟨rfl, rfl⟩ := hp
  show ab_T _ _ _ _ 0 0 22 _ (.int _ :: [_, _]) _ _
  obtain ⟨w6, ew6, hf⟩ := ab_bind hf
  refine ab_callS (pc2 := 25) (st := []) (m_X11_store (d := (d + 0)) T3 ew6) mf_X11_store tw_252 tw_169 dX11_swapPlaces_22 rfl (by omega) (Nat.le_refl _) (Nat.le_refl _) rfl (Nat.le_of_ble_eq_true rfl) (fun v u hp => ?_)
  obtain ⟨rfl, rfl⟩ := hp
  show ab_T _ _ _ _ 0 0 25 _ ([]) _ _
  refine ab_aload_n (x := _) (pc2 := 26) dX11_swapPlaces_25 rfl rfl ?_
  refine ab_getR (pc2 := 29) rfl ht0 fa_X11_35 dX11_swapPlaces_26 rfl (fun T7 => ?_)
  refine ab_iload_n (pc2 := 30) dX11_swapPlaces_29 rfl rfl ?_
  refine ab_iload_n (pc2 := 31) dX11_swapPlaces_30 rfl rfl ?_
  obtain ⟨w8, ew8, hf⟩ := ab_bind hf
  refine ab_callS (pc2 := 34) (st := []) (m_X11_store (d := (d + 0)) T7 ew8) mf_X11_store tw_252 tw_169 dX11_swapPlaces_31 rfl (by omega) (Nat.le_refl _) (Nat.le_refl _) rfl (Nat.le_of_ble_eq_true rfl) (fun v u hp => ?_)
  obtain ⟨rfl, rfl⟩ := hp
  show ab_T _ _ _ _ 0 0 34 _ ([]) _ _
  cases Option.some.inj hf
  exact ab_retV dX11_swapPlaces_34 rfl (Nat.le_refl _) (Nat.le_refl _) ⟨rfl, rfl⟩
set_option maxHeartbeats 4000000 in
set_option maxRecDepth 100000 in
theorem m_X11_swapPlaces {d : Nat} {t0 : Nat} {i1 : Int32} {i2 : Int32} {h : ab_HP} {r : ab_HP} (ht0 : (ab_shp t0).1 = 0) (hf : f_X11_swapPlaces t0 i1 i2 h = some r) : ab_MET mX11_swapPlaces (d + 1) 0 0 [va_rf (some t0), .int i1, .int i2] h (ab_Pv r) := ab_met (by decide +kernel) (by decide +kernel) (Nat.le_of_ble_eq_true rfl) rfl (x_X11_swapPlaces ht0 hf)
set_option maxHeartbeats 4000000 in
set_option maxRecDepth 100000 in
theorem x_X11_nextOrder_l93 {d : Nat} {t0 : Nat} {r : (Int32 × ab_HP)} (ht0 : (ab_shp t0).1 = 0) : ∀ (n : Nat) (i4 : Int32) (i5 : Int32) (h : ab_HP), f_X11_nextOrder_l93 t0 n i4 i5 h = some r → ab_T mX11_nextOrder (d + 2) 0 0 0 0 93 [some (va_rf (some t0)), none, none, none, some (.int i4), some (.int i5)] [] h (ab_Pb r.1 r.2) := by
  intro n
  induction n with
  | zero =>
    intro i4 i5 h hf
    rw [f_X11_nextOrder_l93] at hf
    cases hf
  | succ n ih =>
    intro i4 i5 h hf
    rw [f_X11_nextOrder_l93] at hf
    refine ab_iload (pc2 := 95) dX11_nextOrder_93 rfl rfl ?_
    refine ab_iload (pc2 := 97) dX11_nextOrder_95 rfl rfl ?_
    refine ab_icmp_ge (tgt := 117) (pc2 := 100) dX11_nextOrder_97 (by decide) rfl hf (fun c15 hf => ?_) (fun c15 hf => ?_)
    · refine ab_iconst (pc2 := 118) (v := 1) dX11_nextOrder_117 rfl ab_k_iconst_1 ?_
      cases Option.some.inj hf
      exact ab_retI dX11_nextOrder_118 (Or.inr ⟨rfl, (Or.inr rfl)⟩) (Nat.le_refl _) (Nat.le_refl _) ⟨rfl, rfl, (Or.inr rfl)⟩
    · refine ab_aload_n (x := _) (pc2 := 101) dX11_nextOrder_100 rfl rfl ?_
      refine ab_iload (pc2 := 103) dX11_nextOrder_101 rfl rfl ?_
      refine ab_iload (pc2 := 105) dX11_nextOrder_103 rfl rfl ?_
      obtain ⟨w16, ew16, hf⟩ := ab_bind hf
      refine ab_callV (pc2 := 108) (st := []) rfl ht0 (by decide) (m_X11_swapPlaces (d := (d + 0)) ht0 ew16) mf_X11_swapPlaces tw_254 tw_253 ts_X11_swapPlaces (Or.inl (by decide +kernel)) dX11_nextOrder_105 rfl (by omega) (Nat.le_refl _) (Nat.le_refl _) rfl (Nat.le_of_ble_eq_true rfl) (fun v u hp => ?_)
      obtain ⟨rfl, rfl⟩ := hp
      show ab_T _ _ _ _ 0 0 108 _ ([]) _ _
      refine ab_iinc (pc2 := 111) (v := _ + 1) (lo2 := [some (va_rf _), none, none, none, some (.int _), some (.int _)]) dX11_nextOrder_108 rfl rfl rfl (by decide) rfl ?_
      refine ab_iinc (pc2 := 114) (v := _ + (-1)) (lo2 := [some (va_rf _), none, none, none, some (.int _), some (.int _)]) dX11_nextOrder_111 rfl rfl rfl (by decide) rfl ?_
      refine ab_goto (tgt := 93) dX11_nextOrder_114 (by decide) ?_
      exact ab_weak (ih _ _ _ hf) (ab_leS (ab_leN (ab_leN (ab_leN (ab_leS (ab_leS ab_le0))))))
set_option maxHeartbeats 4000000 in
set_option maxRecDepth 100000 in
theorem x_X11_nextOrder_b77 {d : Nat} {t0 : Nat} {i1 : Int32} {i2 : Int32} {i3 : Int32} {h : ab_HP} {r : (Int32 × ab_HP)} (ht0 : (ab_shp t0).1 = 0) (hf : f_X11_nextOrder_b77 t0 i1 i2 i3 h = some r) : ab_T mX11_nextOrder (d + 2) 0 0 0 0 77 [some (va_rf (some t0)), some (.int i1), some (.int i2), some (.int i3), none, none] [] h (ab_Pb r.1 r.2) := by
  unfold f_X11_nextOrder_b77 at hf
  refine ab_aload_n (x := _) (pc2 := 78) dX11_nextOrder_77 rfl rfl ?_
  refine ab_iload_n (pc2 := 79) dX11_nextOrder_78 rfl rfl ?_
  refine ab_iload_n (pc2 := 80) dX11_nextOrder_79 rfl rfl ?_
  obtain ⟨w14, ew14, hf⟩ := ab_bind hf
  refine ab_callV (pc2 := 83) (st := []) rfl ht0 (by decide) (m_X11_swapPlaces (d := (d + 0)) ht0 ew14) mf_X11_swapPlaces tw_254 tw_253 ts_X11_swapPlaces (Or.inl (by decide +kernel)) dX11_nextOrder_80 rfl (by omega) (Nat.le_refl _) (Nat.le_refl _) rfl (Nat.le_of_ble_eq_true rfl) (fun v u hp => ?_)
  obtain ⟨rfl, rfl⟩ := hp
  show ab_T _ _ _ _ 0 0 83 _ ([]) _ _
  refine ab_iload_n (pc2 := 84) dX11_nextOrder_83 rfl rfl ?_
  refine ab_iconst (pc2 := 85) (v := 1) dX11_nextOrder_84 rfl ab_k_iconst_1 ?_
  refine ab_iadd (pc2 := 86) dX11_nextOrder_85 rfl ?_
  refine ab_istore (pc2 := 88) (lo2 := [some (va_rf _), some (.int _), some (.int _), some (.int _), some (.int _), none]) dX11_nextOrder_86 rfl (by decide) rfl ?_
  refine ab_iload_n (pc2 := 89) dX11_nextOrder_88 rfl rfl ?_
  refine ab_iconst (pc2 := 90) (v := 1) dX11_nextOrder_89 rfl ab_k_iconst_1 ?_
  refine ab_isub (pc2 := 91) dX11_nextOrder_90 rfl ?_
  refine ab_istore (pc2 := 93) (lo2 := [some (va_rf _), some (.int _), some (.int _), some (.int _), some (.int _), some (.int _)]) dX11_nextOrder_91 rfl (by decide) rfl ?_
  exact ab_weak (x_X11_nextOrder_l93 ht0 _ _ _ _ hf) (ab_leS (ab_leN (ab_leN (ab_leN (ab_leS (ab_leS ab_le0))))))
set_option maxHeartbeats 4000000 in
set_option maxRecDepth 100000 in
theorem x_X11_nextOrder_l45 {d : Nat} {t0 : Nat} {r : (Int32 × ab_HP)} (ht0 : (ab_shp t0).1 = 0) : ∀ (n : Nat) (i1 : Int32) (i2 : Int32) (i3 : Int32) (h : ab_HP), f_X11_nextOrder_l45 t0 n i1 i2 i3 h = some r → ab_T mX11_nextOrder (d + 2) 0 0 0 0 45 [some (va_rf (some t0)), some (.int i1), some (.int i2), some (.int i3), none, none] [] h (ab_Pb r.1 r.2) := by
  intro n
  induction n with
  | zero =>
    intro i1 i2 i3 h hf
    rw [f_X11_nextOrder_l45] at hf
    cases hf
  | succ n ih =>
    intro i1 i2 i3 h hf
    rw [f_X11_nextOrder_l45] at hf
    refine ab_iload_n (pc2 := 46) dX11_nextOrder_45 rfl rfl ?_
    refine ab_iload_n (pc2 := 47) dX11_nextOrder_46 rfl rfl ?_
    refine ab_iconst (pc2 := 48) (v := 1) dX11_nextOrder_47 rfl ab_k_iconst_1 ?_
    refine ab_iadd (pc2 := 49) dX11_nextOrder_48 rfl ?_
    refine ab_icmp_le (tgt := 77) (pc2 := 52) dX11_nextOrder_49 (by decide) rfl hf (fun c8 hf => ?_) (fun c8 hf => ?_)
    · exact ab_weak (x_X11_nextOrder_b77 ht0 hf) (ab_leS (ab_leS (ab_leS (ab_leS (ab_leN (ab_leN ab_le0))))))
    · refine ab_aload_n (x := _) (pc2 := 53) dX11_nextOrder_52 rfl rfl ?_
      refine ab_getR (pc2 := 56) rfl ht0 fa_X11_35 dX11_nextOrder_53 rfl (fun T9 => ?_)
      refine ab_iload_n (pc2 := 57) dX11_nextOrder_56 rfl rfl ?_
      obtain ⟨w10, ew10, hf⟩ := ab_bind hf
      refine ab_callS (pc2 := 60) (st := []) (m_X11_at (d := (d + 1)) T9 ew10) mf_X11_at tw_251 tw_23 dX11_nextOrder_57 rfl (by omega) (Nat.le_refl _) (Nat.le_refl _) rfl (Nat.le_of_ble_eq_true rfl) (fun v u hp => ?_)
      obtain ⟨rfl, rfl⟩ := hp
      show ab_T _ _ _ _ 0 0 60 _ (.int _ :: []) _ _
      refine ab_aload_n (x := _) (pc2 := 61) dX11_nextOrder_60 rfl rfl ?_
      refine ab_getR (pc2 := 64) rfl ht0 fa_X11_35 dX11_nextOrder_61 rfl (fun T11 => ?_)
      refine ab_iload_n (pc2 := 65) dX11_nextOrder_64 rfl rfl ?_
      obtain ⟨w12, ew12, hf⟩ := ab_bind hf
      refine ab_callS (pc2 := 68) (st := [_]) (m_X11_at (d := (d + 1)) T11 ew12) mf_X11_at tw_251 tw_23 dX11_nextOrder_65 rfl (by omega) (Nat.le_refl _) (Nat.le_refl _) rfl (Nat.le_of_ble_eq_true rfl) (fun v u hp => ?_)
      obtain ⟨rfl, rfl⟩ := hp
      show ab_T _ _ _ _ 0 0 68 _ (.int _ :: [_]) _ _
      refine ab_icmp_ge (tgt := 77) (pc2 := 71) dX11_nextOrder_68 (by decide) rfl hf (fun c13 hf => ?_) (fun c13 hf => ?_)
      · exact ab_weak (x_X11_nextOrder_b77 ht0 hf) (ab_leS (ab_leS (ab_leS (ab_leS (ab_leN (ab_leN ab_le0))))))
      · refine ab_iinc (pc2 := 74) (v := _ + (-1)) (lo2 := [some (va_rf _), some (.int _), some (.int _), some (.int _), none, none]) dX11_nextOrder_71 rfl rfl rfl (by decide) rfl ?_
        refine ab_goto (tgt := 45) dX11_nextOrder_74 (by decide) ?_
        exact ab_weak (ih _ _ _ _ hf) (ab_leS (ab_leS (ab_leS (ab_leS (ab_leN (ab_leN ab_le0))))))
set_option maxHeartbeats 4000000 in
set_option maxRecDepth 100000 in
theorem x_X11_nextOrder_b35 {d : Nat} {t0 : Nat} {i1 : Int32} {i2 : Int32} {h : ab_HP} {r : (Int32 × ab_HP)} (ht0 : (ab_shp t0).1 = 0) (hf : f_X11_nextOrder_b35 t0 i1 i2 h = some r) : ab_T mX11_nextOrder (d + 2) 0 0 0 0 35 [some (va_rf (some t0)), some (.int i1), some (.int i2), none, none, none] [] h (ab_Pb r.1 r.2) := by
  unfold f_X11_nextOrder_b35 at hf
  refine ab_iload_n (pc2 := 36) dX11_nextOrder_35 rfl rfl ?_
  refine ab_if_ge (tgt := 41) (pc2 := 39) dX11_nextOrder_36 (by decide) rfl hf (fun c7 hf => ?_) (fun c7 hf => ?_)
  · refine ab_iload_n (pc2 := 42) dX11_nextOrder_41 rfl rfl ?_
    refine ab_iconst (pc2 := 43) (v := 1) dX11_nextOrder_42 rfl ab_k_iconst_1 ?_
    refine ab_isub (pc2 := 44) dX11_nextOrder_43 rfl ?_
    refine ab_istore_n (pc2 := 45) (lo2 := [some (va_rf _), some (.int _), some (.int _), some (.int _), none, none]) dX11_nextOrder_44 rfl (by decide) rfl ?_
    exact ab_weak (x_X11_nextOrder_l45 ht0 _ _ _ _ _ hf) (ab_leS (ab_leS (ab_leS (ab_leS (ab_leN (ab_leN ab_le0))))))
  · refine ab_iconst (pc2 := 40) (v := 0) dX11_nextOrder_39 rfl ab_k_iconst_0 ?_
    cases Option.some.inj hf
    exact ab_retI dX11_nextOrder_40 (Or.inr ⟨rfl, (Or.inl rfl)⟩) (Nat.le_refl _) (Nat.le_refl _) ⟨rfl, rfl, (Or.inl rfl)⟩
set_option maxHeartbeats 4000000 in
set_option maxRecDepth 100000 in
theorem x_X11_nextOrder_l4 {d : Nat} {t0 : Nat} {r : (Int32 × ab_HP)} (ht0 : (ab_shp t0).1 = 0) : ∀ (n : Nat) (i1 : Int32) (i2 : Int32) (h : ab_HP), f_X11_nextOrder_l4 t0 n i1 i2 h = some r → ab_T mX11_nextOrder (d + 2) 0 0 0 0 4 [some (va_rf (some t0)), some (.int i1), some (.int i2), none, none, none] [] h (ab_Pb r.1 r.2) := by
  intro n
  induction n with
  | zero =>
    intro i1 i2 h hf
    rw [f_X11_nextOrder_l4] at hf
    cases hf
  | succ n ih =>
    intro i1 i2 h hf
    rw [f_X11_nextOrder_l4] at hf
    refine ab_iload_n (pc2 := 5) dX11_nextOrder_4 rfl rfl ?_
    refine ab_if_lt (tgt := 35) (pc2 := 8) dX11_nextOrder_5 (by decide) rfl hf (fun c1 hf => ?_) (fun c1 hf => ?_)
    · exact ab_weak (x_X11_nextOrder_b35 ht0 hf) (ab_leS (ab_leS (ab_leS (ab_leN (ab_leN (ab_leN ab_le0))))))
    · refine ab_aload_n (x := _) (pc2 := 9) dX11_nextOrder_8 rfl rfl ?_
      refine ab_getR (pc2 := 12) rfl ht0 fa_X11_35 dX11_nextOrder_9 rfl (fun T2 => ?_)
      refine ab_iload_n (pc2 := 13) dX11_nextOrder_12 rfl rfl ?_
      obtain ⟨w3, ew3, hf⟩ := ab_bind hf
      refine ab_callS (pc2 := 16) (st := []) (m_X11_at (d := (d + 1)) T2 ew3) mf_X11_at tw_251 tw_23 dX11_nextOrder_13 rfl (by omega) (Nat.le_refl _) (Nat.le_refl _) rfl (Nat.le_of_ble_eq_true rfl) (fun v u hp => ?_)
      obtain ⟨rfl, rfl⟩ := hp
      show ab_T _ _ _ _ 0 0 16 _ (.int _ :: []) _ _
      refine ab_aload_n (x := _) (pc2 := 17) dX11_nextOrder_16 rfl rfl ?_
      refine ab_getR (pc2 := 20) rfl ht0 fa_X11_35 dX11_nextOrder_17 rfl (fun T4 => ?_)
      refine ab_iload_n (pc2 := 21) dX11_nextOrder_20 rfl rfl ?_
      refine ab_iconst (pc2 := 22) (v := 1) dX11_nextOrder_21 rfl ab_k_iconst_1 ?_
      refine ab_iadd (pc2 := 23) dX11_nextOrder_22 rfl ?_
      obtain ⟨w5, ew5, hf⟩ := ab_bind hf
      refine ab_callS (pc2 := 26) (st := [_]) (m_X11_at (d := (d + 1)) T4 ew5) mf_X11_at tw_251 tw_23 dX11_nextOrder_23 rfl (by omega) (Nat.le_refl _) (Nat.le_refl _) rfl (Nat.le_of_ble_eq_true rfl) (fun v u hp => ?_)
      obtain ⟨rfl, rfl⟩ := hp
      show ab_T _ _ _ _ 0 0 26 _ (.int _ :: [_]) _ _
      refine ab_icmp_le (tgt := 35) (pc2 := 29) dX11_nextOrder_26 (by decide) rfl hf (fun c6 hf => ?_) (fun c6 hf => ?_)
      · exact ab_weak (x_X11_nextOrder_b35 ht0 hf) (ab_leS (ab_leS (ab_leS (ab_leN (ab_leN (ab_leN ab_le0))))))
      · refine ab_iinc (pc2 := 32) (v := _ + (-1)) (lo2 := [some (va_rf _), some (.int _), some (.int _), none, none, none]) dX11_nextOrder_29 rfl rfl rfl (by decide) rfl ?_
        refine ab_goto (tgt := 4) dX11_nextOrder_32 (by decide) ?_
        exact ab_weak (ih _ _ _ hf) (ab_leS (ab_leS (ab_leS (ab_leN (ab_leN (ab_leN ab_le0))))))
set_option maxHeartbeats 4000000 in
set_option maxRecDepth 100000 in
theorem x_X11_nextOrder {d : Nat} {t0 : Nat} {i1 : Int32} {h : ab_HP} {r : (Int32 × ab_HP)} (ht0 : (ab_shp t0).1 = 0) (hf : f_X11_nextOrder t0 i1 h = some r) : ab_T mX11_nextOrder (d + 2) 0 0 0 0 0 [some (va_rf (some t0)), some (.int i1), none, none, none, none] [] h (ab_Pb r.1 r.2) := by
  unfold f_X11_nextOrder at hf
  refine ab_iload_n (pc2 := 1) dX11_nextOrder_0 rfl rfl ?_
  refine ab_iconst (pc2 := 2) (v := 2) dX11_nextOrder_1 rfl ab_k_iconst_2 ?_
  refine ab_isub (pc2 := 3) dX11_nextOrder_2 rfl ?_
  refine ab_istore_n (pc2 := 4) (lo2 := [some (va_rf _), some (.int _), some (.int _), none, none, none]) dX11_nextOrder_3 rfl (by decide) rfl ?_
  exact ab_weak (x_X11_nextOrder_l4 ht0 _ _ _ _ hf) (ab_leS (ab_leS (ab_leS (ab_leN (ab_leN (ab_leN ab_le0))))))
set_option maxHeartbeats 4000000 in
set_option maxRecDepth 100000 in
theorem m_X11_nextOrder {d : Nat} {t0 : Nat} {i1 : Int32} {h : ab_HP} {r : (Int32 × ab_HP)} (ht0 : (ab_shp t0).1 = 0) (hf : f_X11_nextOrder t0 i1 h = some r) : ab_MET mX11_nextOrder (d + 2) 0 0 [va_rf (some t0), .int i1] h (ab_Pb r.1 r.2) := ab_met (by decide +kernel) (by decide +kernel) (Nat.le_of_ble_eq_true rfl) rfl (x_X11_nextOrder ht0 hf)
set_option maxHeartbeats 4000000 in
set_option maxRecDepth 100000 in
theorem x_X11_freest_b122 {d : Nat} {t0 : Nat} {i3 : Int32} {i4 : Int32} {i5 : Int32} {h : ab_HP} {r : (Int32 × ab_HP)} (ht0 : (ab_shp t0).1 = 0) (hf : f_X11_freest_b122 t0 i3 i4 i5 h = some r) : ab_T mX11_freest (d + 6) 0 0 0 0 122 [some (va_rf (some t0)), none, none, some (.int i3), some (.int i4), some (.int i5), none, none, none] [] h (ab_Pi r.1 r.2) := by
  unfold f_X11_freest_b122 at hf
  refine ab_iload_n (pc2 := 123) dX11_freest_122 rfl rfl ?_
  refine ab_if_ne (tgt := 131) (pc2 := 126) dX11_freest_123 (by decide) rfl hf (fun c18 hf => ?_) (fun c18 hf => ?_)
  · refine ab_iload (pc2 := 133) dX11_freest_131 rfl rfl ?_
    cases Option.some.inj hf
    exact ab_retI dX11_freest_133 (Or.inl rfl) (Nat.le_refl _) (Nat.le_refl _) ⟨rfl, rfl⟩
  · refine ab_iload (pc2 := 128) dX11_freest_126 rfl rfl ?_
    refine ab_goto (tgt := 133) dX11_freest_128 (by decide) ?_
    cases Option.some.inj hf
    exact ab_retI dX11_freest_133 (Or.inl rfl) (Nat.le_refl _) (Nat.le_refl _) ⟨rfl, rfl⟩
set_option maxHeartbeats 4000000 in
set_option maxRecDepth 100000 in
theorem x_X11_freest_b106 {d : Nat} {k42 : Option Nat → Int32 → Int32 → Int32 → Int32 → Int32 → Int32 → ab_HP → Option (Int32 × ab_HP)} {t0 : Nat} {i1 : Option Nat} {i2 : Int32} {i3 : Int32} {i4 : Int32} {i5 : Int32} {i7 : Int32} {h : ab_HP} {r : (Int32 × ab_HP)} (ht0 : (ab_shp t0).1 = 0) (hk42 : ∀ (i1 : Option Nat) (i2 : Int32) (i3 : Int32) (i4 : Int32) (i5 : Int32) (i6 : Int32) (i7 : Int32) (h : ab_HP), (∀ z, i1 = some z → (ab_shp z).1 = 3) → k42 i1 i2 i3 i4 i5 i6 i7 h = some r → ab_T mX11_freest (d + 6) 0 0 0 0 42 [some (va_rf (some t0)), some (va_rf i1), some (.int i2), some (.int i3), some (.int i4), some (.int i5), some (.int i6), some (.int i7), none] [] h (ab_Pi r.1 r.2)) (T_i1 : ∀ z, i1 = some z → (ab_shp z).1 = 3) (hf : f_X11_freest_b106 k42 t0 i1 i2 i3 i4 i5 i7 h = some r) : ab_T mX11_freest (d + 6) 0 0 0 0 106 [some (va_rf (some t0)), some (va_rf i1), some (.int i2), some (.int i3), some (.int i4), some (.int i5), none, some (.int i7), none] [] h (ab_Pi r.1 r.2) := by
  unfold f_X11_freest_b106 at hf
  refine ab_aload_n (x := _) (pc2 := 107) dX11_freest_106 rfl rfl ?_
  refine ab_aload_n (x := _) (pc2 := 108) dX11_freest_107 rfl rfl ?_
  obtain ⟨q19, hq19, hf⟩ := ab_bind hf
  refine ab_getI (pc2 := 111) hq19 (T_i1 q19 hq19) fa_X11_182 (by decide) dX11_freest_108 rfl ?_
  obtain ⟨w20, ew20, hf⟩ := ab_bind hf
  refine ab_callV (pc2 := 114) (st := []) rfl ht0 (by decide) (m_X11_nextOrder (d := (d + 3)) ht0 ew20) mf_X11_nextOrder tw_258 tw_257 ts_X11_nextOrder (Or.inl (by decide +kernel)) dX11_freest_111 rfl (by omega) (Nat.le_refl _) (Nat.le_refl _) rfl (Nat.le_of_ble_eq_true rfl) (fun v u hp => ?_)
  obtain ⟨rfl, rfl, z21⟩ := hp
  show ab_T _ _ _ _ 0 0 114 _ (.int _ :: []) _ _
  refine ab_istore (pc2 := 116) (lo2 := [some (va_rf _), some (va_rf _), some (.int _), some (.int _), some (.int _), some (.int _), some (.int _), some (.int _), none]) dX11_freest_114 rfl (by decide) rfl ?_
  refine ab_iinc (pc2 := 119) (v := _ + 1) (lo2 := [some (va_rf _), some (va_rf _), some (.int _), some (.int _), some (.int _), some (.int _), some (.int _), some (.int _), none]) dX11_freest_116 rfl rfl rfl (by decide) rfl ?_
  refine ab_goto (tgt := 42) dX11_freest_119 (by decide) ?_
  exact ab_weak (hk42 _ _ _ _ _ _ _ _ T_i1 hf) (ab_leS (ab_leS (ab_leS (ab_leS (ab_leS (ab_leS (ab_leS (ab_leS (ab_leN ab_le0)))))))))
set_option maxHeartbeats 4000000 in
set_option maxRecDepth 100000 in
theorem x_X11_freest_b89 {d : Nat} {k42 : Option Nat → Int32 → Int32 → Int32 → Int32 → Int32 → Int32 → ab_HP → Option (Int32 × ab_HP)} {t0 : Nat} {i1 : Option Nat} {i2 : Int32} {i3 : Int32} {i7 : Int32} {i8 : Int32} {h : ab_HP} {r : (Int32 × ab_HP)} (ht0 : (ab_shp t0).1 = 0) (hk42 : ∀ (i1 : Option Nat) (i2 : Int32) (i3 : Int32) (i4 : Int32) (i5 : Int32) (i6 : Int32) (i7 : Int32) (h : ab_HP), (∀ z, i1 = some z → (ab_shp z).1 = 3) → k42 i1 i2 i3 i4 i5 i6 i7 h = some r → ab_T mX11_freest (d + 6) 0 0 0 0 42 [some (va_rf (some t0)), some (va_rf i1), some (.int i2), some (.int i3), some (.int i4), some (.int i5), some (.int i6), some (.int i7), none] [] h (ab_Pi r.1 r.2)) (T_i1 : ∀ z, i1 = some z → (ab_shp z).1 = 3) (hf : f_X11_freest_b89 k42 t0 i1 i2 i3 i7 i8 h = some r) : ab_T mX11_freest (d + 6) 0 0 0 0 89 [some (va_rf (some t0)), some (va_rf i1), some (.int i2), some (.int i3), none, none, none, some (.int i7), some (.int i8)] [] h (ab_Pi r.1 r.2) := by
  unfold f_X11_freest_b89 at hf
  refine ab_iload (pc2 := 91) dX11_freest_89 rfl rfl ?_
  obtain ⟨w22, ew22, hf⟩ := ab_bind hf
  refine ab_callS (pc2 := 94) (st := []) (m_J6_bitCount_0f7a4 (d := (d + 5)) ew22) mf_J6_bitCount_0f7a4 tw_202 tw_203 dX11_freest_91 rfl (by omega) (Nat.le_refl _) (Nat.le_refl _) rfl (Nat.le_of_ble_eq_true rfl) (fun v u hp => ?_)
  obtain ⟨rfl, rfl⟩ := hp
  show ab_T _ _ _ _ 0 0 94 _ (.int _ :: []) _ _
  refine ab_istore (pc2 := 96) (lo2 := [some (va_rf _), some (va_rf _), some (.int _), some (.int _), some (.int _), none, none, some (.int _), some (.int _)]) dX11_freest_94 rfl (by decide) rfl ?_
  refine ab_aload_n (x := _) (pc2 := 97) dX11_freest_96 rfl rfl ?_
  refine ab_aload_n (x := _) (pc2 := 98) dX11_freest_97 rfl rfl ?_
  obtain ⟨q23, hq23, hf⟩ := ab_bind hf
  refine ab_getI (pc2 := 101) hq23 (T_i1 q23 hq23) fa_X11_182 (by decide) dX11_freest_98 rfl ?_
  obtain ⟨w24, ew24, hf⟩ := ab_bind hf
  refine ab_callV (pc2 := 104) (st := []) rfl ht0 (by decide) (m_X11_orderDigits (d := (d + 4)) ht0 ew24) mf_X11_orderDigits tw_260 tw_259 ts_X11_orderDigits (Or.inl (by decide +kernel)) dX11_freest_101 rfl (by omega) (Nat.le_refl _) (Nat.le_refl _) rfl (Nat.le_of_ble_eq_true rfl) (fun v u hp => ?_)
  obtain ⟨rfl, rfl⟩ := hp
  show ab_T _ _ _ _ 0 0 104 _ (.int _ :: []) _ _
  refine ab_istore (pc2 := 106) (lo2 := [some (va_rf _), some (va_rf _), some (.int _), some (.int _), some (.int _), some (.int _), none, some (.int _), some (.int _)]) dX11_freest_104 rfl (by decide) rfl ?_
  exact ab_weak (x_X11_freest_b106 ht0 hk42 T_i1 hf) (ab_leS (ab_leS (ab_leS (ab_leS (ab_leS (ab_leS (ab_leN (ab_leS (ab_leN ab_le0)))))))))
set_option maxHeartbeats 4000000 in
set_option maxRecDepth 100000 in
theorem x_X11_freest_l42 {d : Nat} {t0 : Nat} {r : (Int32 × ab_HP)} (ht0 : (ab_shp t0).1 = 0) : ∀ (n : Nat) (i1 : Option Nat) (i2 : Int32) (i3 : Int32) (i4 : Int32) (i5 : Int32) (i6 : Int32) (i7 : Int32) (h : ab_HP), (∀ z, i1 = some z → (ab_shp z).1 = 3) → f_X11_freest_l42 t0 n i1 i2 i3 i4 i5 i6 i7 h = some r → ab_T mX11_freest (d + 6) 0 0 0 0 42 [some (va_rf (some t0)), some (va_rf i1), some (.int i2), some (.int i3), some (.int i4), some (.int i5), some (.int i6), some (.int i7), none] [] h (ab_Pi r.1 r.2) := by
  intro n
  induction n with
  | zero =>
    intro i1 i2 i3 i4 i5 i6 i7 h T_i1 hf
    rw [f_X11_freest_l42] at hf
    cases hf
  | succ n ih =>
    intro i1 i2 i3 i4 i5 i6 i7 h T_i1 hf
    rw [f_X11_freest_l42] at hf
    refine ab_iload (pc2 := 44) dX11_freest_42 rfl rfl ?_
    refine ab_bipush (pc2 := 46) (v := 120) dX11_freest_44 rfl ab_k_bipush_120 ?_
    refine ab_icmp_ge (tgt := 122) (pc2 := 49) dX11_freest_46 (by decide) rfl hf (fun c8 hf => ?_) (fun c8 hf => ?_)
    · exact ab_weak (x_X11_freest_b122 ht0 hf) (ab_leS (ab_leN (ab_leN (ab_leS (ab_leS (ab_leS (ab_leN (ab_leN (ab_leN ab_le0)))))))))
    · refine ab_iload (pc2 := 51) dX11_freest_49 rfl rfl ?_
      refine ab_if_eq (tgt := 122) (pc2 := 54) dX11_freest_51 (by decide) rfl hf (fun c9 hf => ?_) (fun c9 hf => ?_)
      · exact ab_weak (x_X11_freest_b122 ht0 hf) (ab_leS (ab_leN (ab_leN (ab_leS (ab_leS (ab_leS (ab_leN (ab_leN (ab_leN ab_le0)))))))))
      · refine ab_aload_n (x := _) (pc2 := 55) dX11_freest_54 rfl rfl ?_
        refine ab_aload_n (x := _) (pc2 := 56) dX11_freest_55 rfl rfl ?_
        obtain ⟨w10, ew10, hf⟩ := ab_bind hf
        refine ab_callV (pc2 := 59) (st := []) rfl ht0 (by decide) (m_X11_takeOrder (d := (d + 3)) ht0 T_i1 ew10) mf_X11_takeOrder tw_256 tw_255 ts_X11_takeOrder (Or.inl (by decide +kernel)) dX11_freest_56 rfl (by omega) (Nat.le_refl _) (Nat.le_refl _) rfl (Nat.le_of_ble_eq_true rfl) (fun v u hp => ?_)
        obtain ⟨rfl, rfl⟩ := hp
        show ab_T _ _ _ _ 0 0 59 _ ([]) _ _
        refine ab_aload_n (x := _) (pc2 := 60) dX11_freest_59 rfl rfl ?_
        refine ab_getR (pc2 := 63) rfl ht0 fa_X11_25 dX11_freest_60 rfl (fun T11 => ?_)
        refine ab_iload_n (pc2 := 64) dX11_freest_63 rfl rfl ?_
        obtain ⟨q12, hq12, hf⟩ := ab_bind hf
        obtain ⟨w13, ew13, hf⟩ := ab_bind hf
        refine ab_callV (pc2 := 67) (st := []) hq12 (T11 q12 hq12) (by decide) (m_X10_leastNails (d := (d + 0)) (T11 q12 hq12) ew13) mf_X10_leastNails tw_245 tw_244 ts_X10_leastNails (Or.inl (by decide +kernel)) dX11_freest_64 rfl (by omega) (Nat.le_refl _) (Nat.le_refl _) rfl (Nat.le_of_ble_eq_true rfl) (fun v u hp => ?_)
        obtain ⟨rfl, rfl⟩ := hp
        show ab_T _ _ _ _ 0 0 67 _ (.int _ :: []) _ _
        refine ab_istore (pc2 := 69) (lo2 := [some (va_rf _), some (va_rf _), some (.int _), some (.int _), some (.int _), some (.int _), some (.int _), some (.int _), some (.int _)]) dX11_freest_67 rfl (by decide) rfl ?_
        refine ab_iload (pc2 := 71) dX11_freest_69 rfl rfl ?_
        refine ab_if_lt (tgt := 106) (pc2 := 74) dX11_freest_71 (by decide) rfl hf (fun c14 hf => ?_) (fun c14 hf => ?_)
        · exact ab_weak (x_X11_freest_b106 ht0 ih T_i1 hf) (ab_leS (ab_leS (ab_leS (ab_leS (ab_leS (ab_leS (ab_leN (ab_leS (ab_leN ab_le0)))))))))
        · refine ab_iload (pc2 := 76) dX11_freest_74 rfl rfl ?_
          refine ab_if_lt (tgt := 89) (pc2 := 79) dX11_freest_76 (by decide) rfl hf (fun c15 hf => ?_) (fun c15 hf => ?_)
          · exact ab_weak (x_X11_freest_b89 ht0 ih T_i1 hf) (ab_leS (ab_leS (ab_leS (ab_leS (ab_leN (ab_leN (ab_leN (ab_leS (ab_leS ab_le0)))))))))
          · refine ab_iload (pc2 := 81) dX11_freest_79 rfl rfl ?_
            obtain ⟨w16, ew16, hf⟩ := ab_bind hf
            refine ab_callS (pc2 := 84) (st := []) (m_J6_bitCount_0f7a4 (d := (d + 5)) ew16) mf_J6_bitCount_0f7a4 tw_202 tw_203 dX11_freest_81 rfl (by omega) (Nat.le_refl _) (Nat.le_refl _) rfl (Nat.le_of_ble_eq_true rfl) (fun v u hp => ?_)
            obtain ⟨rfl, rfl⟩ := hp
            show ab_T _ _ _ _ 0 0 84 _ (.int _ :: []) _ _
            refine ab_iload (pc2 := 86) dX11_freest_84 rfl rfl ?_
            refine ab_icmp_ge (tgt := 106) (pc2 := 89) dX11_freest_86 (by decide) rfl hf (fun c17 hf => ?_) (fun c17 hf => ?_)
            · exact ab_weak (x_X11_freest_b106 ht0 ih T_i1 hf) (ab_leS (ab_leS (ab_leS (ab_leS (ab_leS (ab_leS (ab_leN (ab_leS (ab_leN ab_le0)))))))))
            · exact ab_weak (x_X11_freest_b89 ht0 ih T_i1 hf) (ab_leS (ab_leS (ab_leS (ab_leS (ab_leN (ab_leN (ab_leN (ab_leS (ab_leS ab_le0)))))))))
set_option maxHeartbeats 4000000 in
set_option maxRecDepth 100000 in
theorem x_X11_freest_l11 {d : Nat} {t0 : Nat} {r : (Int32 × ab_HP)} (ht0 : (ab_shp t0).1 = 0) : ∀ (n : Nat) (i1 : Option Nat) (i2 : Int32) (i3 : Int32) (i4 : Int32) (i5 : Int32) (i6 : Int32) (h : ab_HP), (∀ z, i1 = some z → (ab_shp z).1 = 3) → f_X11_freest_l11 t0 n i1 i2 i3 i4 i5 i6 h = some r → ab_T mX11_freest (d + 6) 0 0 0 0 11 [some (va_rf (some t0)), some (va_rf i1), some (.int i2), some (.int i3), some (.int i4), some (.int i5), some (.int i6), none, none] [] h (ab_Pi r.1 r.2) := by
  intro n
  induction n with
  | zero =>
    intro i1 i2 i3 i4 i5 i6 h T_i1 hf
    rw [f_X11_freest_l11] at hf
    cases hf
  | succ n ih =>
    intro i1 i2 i3 i4 i5 i6 h T_i1 hf
    rw [f_X11_freest_l11] at hf
    refine ab_iload (pc2 := 13) dX11_freest_11 rfl rfl ?_
    refine ab_aload_n (x := _) (pc2 := 14) dX11_freest_13 rfl rfl ?_
    refine ab_getR (pc2 := 17) rfl ht0 fa_X11_35 dX11_freest_14 rfl (fun T1 => ?_)
    obtain ⟨q2, hq2, hf⟩ := ab_bind hf
    refine ab_alen (pc2 := 18) hq2 (Or.inl (T1 q2 hq2)) dX11_freest_17 rfl ?_
    refine ab_icmp_ge (tgt := 36) (pc2 := 21) dX11_freest_18 (by decide) rfl hf (fun c3 hf => ?_) (fun c3 hf => ?_)
    · refine ab_iconst (pc2 := 37) (v := 1) dX11_freest_36 rfl ab_k_iconst_1 ?_
      refine ab_istore (pc2 := 39) (lo2 := [some (va_rf _), some (va_rf _), some (.int _), some (.int _), some (.int _), some (.int _), some (.int _), none, none]) dX11_freest_37 rfl (by decide) rfl ?_
      refine ab_iconst (pc2 := 40) (v := 0) dX11_freest_39 rfl ab_k_iconst_0 ?_
      refine ab_istore (pc2 := 42) (lo2 := [some (va_rf _), some (va_rf _), some (.int _), some (.int _), some (.int _), some (.int _), some (.int _), some (.int _), none]) dX11_freest_40 rfl (by decide) rfl ?_
      exact ab_weak (x_X11_freest_l42 ht0 _ _ _ _ _ _ _ _ _ T_i1 hf) (ab_leS (ab_leS (ab_leS (ab_leS (ab_leS (ab_leS (ab_leS (ab_leS (ab_leN ab_le0)))))))))
    · refine ab_aload_n (x := _) (pc2 := 22) dX11_freest_21 rfl rfl ?_
      refine ab_getR (pc2 := 25) rfl ht0 fa_X11_35 dX11_freest_22 rfl (fun T4 => ?_)
      refine ab_iload (pc2 := 27) dX11_freest_25 rfl rfl ?_
      refine ab_iload (pc2 := 29) dX11_freest_27 rfl rfl ?_
      obtain ⟨q5, hq5, hf⟩ := ab_bind hf
      obtain ⟨b6, hf⟩ := ab_guard hf
      have hf := ab_let_e hf
      refine ab_iast (pc2 := 30) hq5 (T4 q5 hq5) (ab_in_vp b6) dX11_freest_29 rfl ?_
      refine ab_iinc (pc2 := 33) (v := _ + 1) (lo2 := [some (va_rf _), some (va_rf _), some (.int _), some (.int _), some (.int _), some (.int _), some (.int _), none, none]) dX11_freest_30 rfl rfl rfl (by decide) rfl ?_
      refine ab_goto (tgt := 11) dX11_freest_33 (by decide) ?_
      exact ab_weak (ih _ _ _ _ _ _ _ T_i1 hf) (ab_leS (ab_leS (ab_leS (ab_leS (ab_leS (ab_leS (ab_leS (ab_leN (ab_leN ab_le0)))))))))
set_option maxHeartbeats 4000000 in
set_option maxRecDepth 100000 in
theorem x_X11_freest {d : Nat} {t0 : Nat} {i1 : Option Nat} {i2 : Int32} {i3 : Int32} {h : ab_HP} {r : (Int32 × ab_HP)} (ht0 : (ab_shp t0).1 = 0) (T_i1 : ∀ z, i1 = some z → (ab_shp z).1 = 3) (hf : f_X11_freest t0 i1 i2 i3 h = some r) : ab_T mX11_freest (d + 6) 0 0 0 0 0 [some (va_rf (some t0)), some (va_rf i1), some (.int i2), some (.int i3), none, none, none, none, none] [] h (ab_Pi r.1 r.2) := by
  unfold f_X11_freest at hf
  refine ab_bipush (pc2 := 2) (v := (-4)) dX11_freest_0 rfl ab_k_bipush_m4 ?_
  refine ab_istore (pc2 := 4) (lo2 := [some (va_rf _), some (va_rf _), some (.int _), some (.int _), some (.int _), none, none, none, none]) dX11_freest_2 rfl (by decide) rfl ?_
  refine ab_bipush (pc2 := 6) (v := (-4)) dX11_freest_4 rfl ab_k_bipush_m4 ?_
  refine ab_istore (pc2 := 8) (lo2 := [some (va_rf _), some (va_rf _), some (.int _), some (.int _), some (.int _), some (.int _), none, none, none]) dX11_freest_6 rfl (by decide) rfl ?_
  refine ab_iconst (pc2 := 9) (v := 0) dX11_freest_8 rfl ab_k_iconst_0 ?_
  refine ab_istore (pc2 := 11) (lo2 := [some (va_rf _), some (va_rf _), some (.int _), some (.int _), some (.int _), some (.int _), some (.int _), none, none]) dX11_freest_9 rfl (by decide) rfl ?_
  exact ab_weak (x_X11_freest_l11 ht0 _ _ _ _ _ _ _ _ T_i1 hf) (ab_leS (ab_leS (ab_leS (ab_leS (ab_leS (ab_leS (ab_leS (ab_leN (ab_leN ab_le0)))))))))
set_option maxHeartbeats 4000000 in
set_option maxRecDepth 100000 in
theorem m_X11_freest {d : Nat} {t0 : Nat} {i1 : Option Nat} {i2 : Int32} {i3 : Int32} {h : ab_HP} {r : (Int32 × ab_HP)} (ht0 : (ab_shp t0).1 = 0) (T_i1 : ∀ z, i1 = some z → (ab_shp z).1 = 3) (hf : f_X11_freest t0 i1 i2 i3 h = some r) : ab_MET mX11_freest (d + 6) 0 0 [va_rf (some t0), va_rf i1, .int i2, .int i3] h (ab_Pi r.1 r.2) := ab_met (by decide +kernel) (by decide +kernel) (by simp [ab_lo, ab_rf1, Value.category]) (by simp [ab_lo0, ab_lo, ab_rf1, Value.category, List.replicate]) (x_X11_freest ht0 T_i1 hf)
set_option maxHeartbeats 4000000 in
set_option maxRecDepth 100000 in
theorem x_X11_free {d : Nat} {t0 : Nat} {i1 : Int32} {i2 : Int32} {i3 : Int32} {h : ab_HP} {r : (Int32 × ab_HP)} (ht0 : (ab_shp t0).1 = 0) (hf : f_X11_free t0 i1 i2 i3 h = some r) : ab_T mX11_free (d + 7) 0 0 0 0 0 [some (va_rf (some t0)), some (.int i1), some (.int i2), some (.int i3), none, none] [] h (ab_Pi r.1 r.2) := by
  unfold f_X11_free at hf
  refine ab_iload_n (pc2 := 1) dX11_free_0 rfl rfl ?_
  obtain ⟨w1, ew1, hf⟩ := ab_bind hf
  refine ab_callS (pc2 := 4) (st := []) (m_X11_areMarks (d := (d + 6)) ew1) mf_X11_areMarks tw_242 tw_243 dX11_free_1 rfl (by omega) (Nat.le_refl _) (Nat.le_refl _) rfl (Nat.le_of_ble_eq_true rfl) (fun v u hp => ?_)
  obtain ⟨rfl, rfl, z2⟩ := hp
  show ab_T _ _ _ _ 0 0 4 _ (.int _ :: []) _ _
  refine ab_if_eq (tgt := 16) (pc2 := 7) dX11_free_4 (by decide) rfl hf (fun c3 hf => ?_) (fun c3 hf => ?_)
  · refine ab_iconst (pc2 := 17) (v := (-1)) dX11_free_16 rfl ab_k_iconst_m1 ?_
    cases Option.some.inj hf
    exact ab_retI dX11_free_17 (Or.inl rfl) (Nat.le_refl _) (Nat.le_refl _) ⟨rfl, rfl⟩
  · refine ab_iload_n (pc2 := 8) dX11_free_7 rfl rfl ?_
    refine ab_if_lt (tgt := 16) (pc2 := 11) dX11_free_8 (by decide) rfl hf (fun c4 hf => ?_) (fun c4 hf => ?_)
    · refine ab_iconst (pc2 := 17) (v := (-1)) dX11_free_16 rfl ab_k_iconst_m1 ?_
      cases Option.some.inj hf
      exact ab_retI dX11_free_17 (Or.inl rfl) (Nat.le_refl _) (Nat.le_refl _) ⟨rfl, rfl⟩
    · refine ab_iload_n (pc2 := 12) dX11_free_11 rfl rfl ?_
      refine ab_iconst (pc2 := 13) (v := 1) dX11_free_12 rfl ab_k_iconst_1 ?_
      refine ab_icmp_le (tgt := 18) (pc2 := 16) dX11_free_13 (by decide) rfl hf (fun c5 hf => ?_) (fun c5 hf => ?_)
      · refine ab_aload_n (x := _) (pc2 := 19) dX11_free_18 rfl rfl ?_
        refine ab_iload_n (pc2 := 20) dX11_free_19 rfl rfl ?_
        obtain ⟨w6, ew6, hf⟩ := ab_bind hf
        refine ab_callV (pc2 := 23) (st := []) rfl ht0 (by decide) (m_X11_listRefusal (d := (d + 4)) ht0 ew6) mf_X11_listRefusal tw_156 tw_155 ts_X11_listRefusal (Or.inl (by decide +kernel)) dX11_free_20 rfl (by omega) (Nat.le_refl _) (Nat.le_refl _) rfl (Nat.le_of_ble_eq_true rfl) (fun v u hp => ?_)
        obtain ⟨rfl, rfl⟩ := hp
        show ab_T _ _ _ _ 0 0 23 _ (.int _ :: []) _ _
        refine ab_istore (pc2 := 25) (lo2 := [some (va_rf _), some (.int _), some (.int _), some (.int _), some (.int _), none]) dX11_free_23 rfl (by decide) rfl ?_
        refine ab_aload_n (x := _) (pc2 := 26) dX11_free_25 rfl rfl ?_
        refine ab_iload_n (pc2 := 27) dX11_free_26 rfl rfl ?_
        obtain ⟨w7, ew7, hf⟩ := ab_bind hf
        refine ab_callV (pc2 := 30) (st := []) rfl ht0 (by decide) (m_X11_shelfAt (d := (d + 6)) ht0 ew7) mf_X11_shelfAt tw_93 tw_92 ts_X11_shelfAt (Or.inl (by decide +kernel)) dX11_free_27 rfl (by omega) (Nat.le_refl _) (Nat.le_refl _) rfl (Nat.le_of_ble_eq_true rfl) (fun v u hp => ?_)
        obtain ⟨rfl, rfl, T8⟩ := hp
        show ab_T _ _ _ _ 0 0 30 _ (va_rf _ :: []) _ _
        refine ab_astore (pc2 := 32) (lo2 := [some (va_rf _), some (.int _), some (.int _), some (.int _), some (.int _), some (va_rf _)]) dX11_free_30 rfl (by decide) rfl ?_
        refine ab_iload (pc2 := 34) dX11_free_32 rfl rfl ?_
        refine ab_if_ne (tgt := 42) (pc2 := 37) dX11_free_34 (by decide) rfl hf (fun c9 hf => ?_) (fun c9 hf => ?_)
        · refine ab_iload (pc2 := 44) dX11_free_42 rfl rfl ?_
          cases Option.some.inj hf
          exact ab_retI dX11_free_44 (Or.inl rfl) (Nat.le_refl _) (Nat.le_refl _) ⟨rfl, rfl⟩
        · refine ab_aload (x := _) (pc2 := 39) dX11_free_37 rfl rfl ?_
          refine ab_nnul (tgt := 45) (pc2 := 42) dX11_free_39 (by decide) rfl hf (fun hq10 hf => ?_) (fun q10 hq10 hf => ?_)
          · refine ab_iload (pc2 := 44) dX11_free_42 rfl rfl ?_
            cases Option.some.inj hf
            exact ab_retI dX11_free_44 (Or.inl rfl) (Nat.le_refl _) (Nat.le_refl _) ⟨rfl, rfl⟩
          · refine ab_aload (x := _) (pc2 := 47) dX11_free_45 rfl rfl ?_
            refine ab_getI (pc2 := 50) hq10 (T8 q10 hq10) fa_X11_182 (by decide) dX11_free_47 rfl ?_
            refine ab_iconst (pc2 := 51) (v := 5) dX11_free_50 rfl ab_k_iconst_5 ?_
            refine ab_icmp_le (tgt := 59) (pc2 := 54) dX11_free_51 (by decide) rfl hf (fun c11 hf => ?_) (fun c11 hf => ?_)
            · refine ab_aload_n (x := _) (pc2 := 60) dX11_free_59 rfl rfl ?_
              refine ab_aload (x := _) (pc2 := 62) dX11_free_60 rfl rfl ?_
              refine ab_iload_n (pc2 := 63) dX11_free_62 rfl rfl ?_
              refine ab_iload_n (pc2 := 64) dX11_free_63 rfl rfl ?_
              obtain ⟨w12, ew12, hf⟩ := ab_bind hf
              refine ab_callV (pc2 := 67) (st := []) rfl ht0 (by decide) (m_X11_freest (d := (d + 0)) ht0 T8 ew12) mf_X11_freest tw_262 tw_261 ts_X11_freest (Or.inl (by decide +kernel)) dX11_free_64 rfl (by omega) (Nat.le_refl _) (Nat.le_refl _) rfl (Nat.le_of_ble_eq_true rfl) (fun v u hp => ?_)
              obtain ⟨rfl, rfl⟩ := hp
              show ab_T _ _ _ _ 0 0 67 _ (.int _ :: []) _ _
              cases Option.some.inj hf
              exact ab_retI dX11_free_67 (Or.inl rfl) (Nat.le_refl _) (Nat.le_refl _) ⟨rfl, rfl⟩
            · refine ab_bipush (pc2 := 56) (v := (-13)) dX11_free_54 rfl ab_k_bipush_m13 ?_
              refine ab_goto (tgt := 67) dX11_free_56 (by decide) ?_
              cases Option.some.inj hf
              exact ab_retI dX11_free_67 (Or.inl rfl) (Nat.le_refl _) (Nat.le_refl _) ⟨rfl, rfl⟩
      · refine ab_iconst (pc2 := 17) (v := (-1)) dX11_free_16 rfl ab_k_iconst_m1 ?_
        cases Option.some.inj hf
        exact ab_retI dX11_free_17 (Or.inl rfl) (Nat.le_refl _) (Nat.le_refl _) ⟨rfl, rfl⟩
set_option maxHeartbeats 4000000 in
set_option maxRecDepth 100000 in
theorem m_X11_free {d : Nat} {t0 : Nat} {i1 : Int32} {i2 : Int32} {i3 : Int32} {h : ab_HP} {r : (Int32 × ab_HP)} (ht0 : (ab_shp t0).1 = 0) (hf : f_X11_free t0 i1 i2 i3 h = some r) : ab_MET mX11_free (d + 7) 0 0 [va_rf (some t0), .int i1, .int i2, .int i3] h (ab_Pi r.1 r.2) := ab_met (by decide +kernel) (by decide +kernel) (Nat.le_of_ble_eq_true rfl) rfl (x_X11_free ht0 hf)
set_option maxHeartbeats 4000000 in
set_option maxRecDepth 100000 in
theorem x_X11_areWorths_l13 {d : Nat}  {r : Int32}  : ∀ (n : Nat) (i0 : Option Nat) (i1 : Int32) (h : ab_HP), (∀ z, i0 = some z → (ab_shp z).1 = 3) → f_X11_areWorths_l13  n i0 i1 h = some r → ab_T mX11_areWorths (d + 2) 0 0 0 0 13 [some (va_rf i0), some (.int i1), none] [] h (ab_Pb r h) := by
  intro n
  induction n with
  | zero =>
    intro i0 i1 h T_i0 hf
    rw [f_X11_areWorths_l13] at hf
    cases hf
  | succ n ih =>
    intro i0 i1 h T_i0 hf
    rw [f_X11_areWorths_l13] at hf
    refine ab_iload_n (pc2 := 14) dX11_areWorths_13 rfl rfl ?_
    refine ab_bipush (pc2 := 16) (v := 10) dX11_areWorths_14 rfl ab_k_bipush_10 ?_
    refine ab_icmp_ge (tgt := 47) (pc2 := 19) dX11_areWorths_16 (by decide) rfl hf (fun c3 hf => ?_) (fun c3 hf => ?_)
    · refine ab_iconst (pc2 := 48) (v := 1) dX11_areWorths_47 rfl ab_k_iconst_1 ?_
      cases Option.some.inj hf
      exact ab_retI dX11_areWorths_48 (Or.inr ⟨rfl, (Or.inr rfl)⟩) (Nat.le_refl _) (Nat.le_refl _) ⟨rfl, rfl, (Or.inr rfl)⟩
    · refine ab_aload_n (x := _) (pc2 := 20) dX11_areWorths_19 rfl rfl ?_
      refine ab_iload_n (pc2 := 21) dX11_areWorths_20 rfl rfl ?_
      obtain ⟨q4, hq4, hf⟩ := ab_bind hf
      obtain ⟨w5, ew5, hf⟩ := ab_bind hf
      refine ab_callV (pc2 := 24) (st := []) hq4 (T_i0 q4 hq4) (by decide) (m_X6_read (d := (d + 0)) (T_i0 q4 hq4) ew5) mf_X6_read tw_154 tw_24 ts_X6_read (Or.inl (by decide +kernel)) dX11_areWorths_21 rfl (by omega) (Nat.le_refl _) (Nat.le_refl _) rfl (Nat.le_of_ble_eq_true rfl) (fun v u hp => ?_)
      obtain ⟨rfl, rfl⟩ := hp
      show ab_T _ _ _ _ 0 0 24 _ (.int _ :: []) _ _
      refine ab_istore_n (pc2 := 25) (lo2 := [some (va_rf _), some (.int _), some (.int _)]) dX11_areWorths_24 rfl (by decide) rfl ?_
      refine ab_iload_n (pc2 := 26) dX11_areWorths_25 rfl rfl ?_
      refine ab_sipush (pc2 := 29) (v := (-999)) dX11_areWorths_26 rfl ab_k_sipush_m999 ?_
      refine ab_icmp_lt (tgt := 39) (pc2 := 32) dX11_areWorths_29 (by decide) rfl hf (fun c6 hf => ?_) (fun c6 hf => ?_)
      · refine ab_iconst (pc2 := 40) (v := 0) dX11_areWorths_39 rfl ab_k_iconst_0 ?_
        cases Option.some.inj hf
        exact ab_retI dX11_areWorths_40 (Or.inr ⟨rfl, (Or.inl rfl)⟩) (Nat.le_refl _) (Nat.le_refl _) ⟨rfl, rfl, (Or.inl rfl)⟩
      · refine ab_iload_n (pc2 := 33) dX11_areWorths_32 rfl rfl ?_
        refine ab_sipush (pc2 := 36) (v := 999) dX11_areWorths_33 rfl ab_k_sipush_999 ?_
        refine ab_icmp_le (tgt := 41) (pc2 := 39) dX11_areWorths_36 (by decide) rfl hf (fun c7 hf => ?_) (fun c7 hf => ?_)
        · refine ab_iinc (pc2 := 44) (v := _ + 1) (lo2 := [some (va_rf _), some (.int _), some (.int _)]) dX11_areWorths_41 rfl rfl rfl (by decide) rfl ?_
          refine ab_goto (tgt := 13) dX11_areWorths_44 (by decide) ?_
          exact ab_weak (ih _ _ _ T_i0 hf) (ab_leS (ab_leS (ab_leN ab_le0)))
        · refine ab_iconst (pc2 := 40) (v := 0) dX11_areWorths_39 rfl ab_k_iconst_0 ?_
          cases Option.some.inj hf
          exact ab_retI dX11_areWorths_40 (Or.inr ⟨rfl, (Or.inl rfl)⟩) (Nat.le_refl _) (Nat.le_refl _) ⟨rfl, rfl, (Or.inl rfl)⟩
set_option maxHeartbeats 4000000 in
set_option maxRecDepth 100000 in
theorem x_X11_areWorths {d : Nat} {i0 : Option Nat} {h : ab_HP} {r : Int32} (T_i0 : ∀ z, i0 = some z → (ab_shp z).1 = 3) (hf : f_X11_areWorths i0 h = some r) : ab_T mX11_areWorths (d + 2) 0 0 0 0 0 [some (va_rf i0), none, none] [] h (ab_Pb r h) := by
  unfold f_X11_areWorths at hf
  refine ab_aload_n (x := _) (pc2 := 1) dX11_areWorths_0 rfl rfl ?_
  obtain ⟨q1, hq1, hf⟩ := ab_bind hf
  refine ab_getI (pc2 := 4) hq1 (T_i0 q1 hq1) fa_X11_182 (by decide) dX11_areWorths_1 rfl ?_
  refine ab_bipush (pc2 := 6) (v := 10) dX11_areWorths_4 rfl ab_k_bipush_10 ?_
  refine ab_icmp_eq (tgt := 11) (pc2 := 9) dX11_areWorths_6 (by decide) rfl hf (fun c2 hf => ?_) (fun c2 hf => ?_)
  · refine ab_iconst (pc2 := 12) (v := 0) dX11_areWorths_11 rfl ab_k_iconst_0 ?_
    refine ab_istore_n (pc2 := 13) (lo2 := [some (va_rf _), some (.int _), none]) dX11_areWorths_12 rfl (by decide) rfl ?_
    exact ab_weak (x_X11_areWorths_l13  _ _ _ _ T_i0 hf) (ab_leS (ab_leS (ab_leN ab_le0)))
  · refine ab_iconst (pc2 := 10) (v := 0) dX11_areWorths_9 rfl ab_k_iconst_0 ?_
    cases Option.some.inj hf
    exact ab_retI dX11_areWorths_10 (Or.inr ⟨rfl, (Or.inl rfl)⟩) (Nat.le_refl _) (Nat.le_refl _) ⟨rfl, rfl, (Or.inl rfl)⟩
set_option maxHeartbeats 4000000 in
set_option maxRecDepth 100000 in
theorem m_X11_areWorths {d : Nat} {i0 : Option Nat} {h : ab_HP} {r : Int32} (T_i0 : ∀ z, i0 = some z → (ab_shp z).1 = 3) (hf : f_X11_areWorths i0 h = some r) : ab_MET mX11_areWorths (d + 2) 0 0 [va_rf i0] h (ab_Pb r h) := ab_met (by decide +kernel) (by decide +kernel) (by simp [ab_lo, ab_rf1, Value.category]) (by simp [ab_lo0, ab_lo, ab_rf1, Value.category, List.replicate]) (x_X11_areWorths T_i0 hf)
set_option maxHeartbeats 4000000 in
set_option maxRecDepth 100000 in
theorem x_X11_addMoves_l3 {d : Nat} {t0 : Nat} {r : ab_HP} (ht0 : (ab_shp t0).1 = 0) : ∀ (n : Nat) (i1 : Int32) (i2 : Int32) (i3 : Int32) (i4 : Int32) (h : ab_HP), f_X11_addMoves_l3 t0 n i1 i2 i3 i4 h = some r → ab_T mX11_addMoves (d + 1) 0 0 0 0 3 [some (va_rf (some t0)), some (.int i1), some (.int i2), some (.int i3), some (.int i4)] [] h (ab_Pv r) := by
  intro n
  induction n with
  | zero =>
    intro i1 i2 i3 i4 h hf
    rw [f_X11_addMoves_l3] at hf
    cases hf
  | succ n ih =>
    intro i1 i2 i3 i4 h hf
    rw [f_X11_addMoves_l3] at hf
    refine ab_iload (pc2 := 5) dX11_addMoves_3 rfl rfl ?_
    refine ab_iload_n (pc2 := 6) dX11_addMoves_5 rfl rfl ?_
    refine ab_icmp_ge (tgt := 48) (pc2 := 9) dX11_addMoves_6 (by decide) rfl hf (fun c1 hf => ?_) (fun c1 hf => ?_)
    · cases Option.some.inj hf
      exact ab_retV dX11_addMoves_48 rfl (Nat.le_refl _) (Nat.le_refl _) ⟨rfl, rfl⟩
    · refine ab_aload_n (x := _) (pc2 := 10) dX11_addMoves_9 rfl rfl ?_
      refine ab_getR (pc2 := 13) rfl ht0 fa_X11_39 dX11_addMoves_10 rfl (fun T2 => ?_)
      refine ab_aload_n (x := _) (pc2 := 14) dX11_addMoves_13 rfl rfl ?_
      refine ab_getI (pc2 := 17) rfl ht0 fa_X11_333 (by decide) dX11_addMoves_14 rfl ?_
      refine ab_bipush (pc2 := 19) (v := 100) dX11_addMoves_17 rfl ab_k_bipush_100 ?_
      refine ab_iload (pc2 := 21) dX11_addMoves_19 rfl rfl ?_
      refine ab_imul (pc2 := 22) dX11_addMoves_21 rfl ?_
      refine ab_bipush (pc2 := 24) (v := 10) dX11_addMoves_22 rfl ab_k_bipush_10 ?_
      refine ab_iload_n (pc2 := 25) dX11_addMoves_24 rfl rfl ?_
      refine ab_imul (pc2 := 26) dX11_addMoves_25 rfl ?_
      refine ab_iadd (pc2 := 27) dX11_addMoves_26 rfl ?_
      refine ab_iload_n (pc2 := 28) dX11_addMoves_27 rfl rfl ?_
      refine ab_iadd (pc2 := 29) dX11_addMoves_28 rfl ?_
      obtain ⟨w3, ew3, hf⟩ := ab_bind hf
      refine ab_callS (pc2 := 32) (st := []) (m_X11_store (d := (d + 0)) T2 ew3) mf_X11_store tw_252 tw_169 dX11_addMoves_29 rfl (by omega) (Nat.le_refl _) (Nat.le_refl _) rfl (Nat.le_of_ble_eq_true rfl) (fun v u hp => ?_)
      obtain ⟨rfl, rfl⟩ := hp
      show ab_T _ _ _ _ 0 0 32 _ ([]) _ _
      refine ab_aload_n (x := _) (pc2 := 33) dX11_addMoves_32 rfl rfl ?_
      refine ab_dup (pc2 := 34) dX11_addMoves_33 rfl (ab_rf1 _) ?_
      refine ab_getI (pc2 := 37) rfl ht0 fa_X11_333 (by decide) dX11_addMoves_34 rfl ?_
      refine ab_iconst (pc2 := 38) (v := 1) dX11_addMoves_37 rfl ab_k_iconst_1 ?_
      refine ab_iadd (pc2 := 39) dX11_addMoves_38 rfl ?_
      have hf := ab_let_e hf
      refine ab_putI (pc2 := 42) rfl ht0 fa_X11_333 (Or.inl rfl) (fun z => by cases z) dX11_addMoves_39 rfl ?_
      refine ab_iinc (pc2 := 45) (v := _ + 1) (lo2 := [some (va_rf _), some (.int _), some (.int _), some (.int _), some (.int _)]) dX11_addMoves_42 rfl rfl rfl (by decide) rfl ?_
      refine ab_goto (tgt := 3) dX11_addMoves_45 (by decide) ?_
      exact ab_weak (ih _ _ _ _ _ hf) (ab_leS (ab_leS (ab_leS (ab_leS (ab_leS ab_le0)))))
set_option maxHeartbeats 4000000 in
set_option maxRecDepth 100000 in
theorem x_X11_addMoves {d : Nat} {t0 : Nat} {i1 : Int32} {i2 : Int32} {i3 : Int32} {h : ab_HP} {r : ab_HP} (ht0 : (ab_shp t0).1 = 0) (hf : f_X11_addMoves t0 i1 i2 i3 h = some r) : ab_T mX11_addMoves (d + 1) 0 0 0 0 0 [some (va_rf (some t0)), some (.int i1), some (.int i2), some (.int i3), none] [] h (ab_Pv r) := by
  unfold f_X11_addMoves at hf
  refine ab_iconst (pc2 := 1) (v := 0) dX11_addMoves_0 rfl ab_k_iconst_0 ?_
  refine ab_istore (pc2 := 3) (lo2 := [some (va_rf _), some (.int _), some (.int _), some (.int _), some (.int _)]) dX11_addMoves_1 rfl (by decide) rfl ?_
  exact ab_weak (x_X11_addMoves_l3 ht0 _ _ _ _ _ _ hf) (ab_leS (ab_leS (ab_leS (ab_leS (ab_leS ab_le0)))))
set_option maxHeartbeats 4000000 in
set_option maxRecDepth 100000 in
theorem m_X11_addMoves {d : Nat} {t0 : Nat} {i1 : Int32} {i2 : Int32} {i3 : Int32} {h : ab_HP} {r : ab_HP} (ht0 : (ab_shp t0).1 = 0) (hf : f_X11_addMoves t0 i1 i2 i3 h = some r) : ab_MET mX11_addMoves (d + 1) 0 0 [va_rf (some t0), .int i1, .int i2, .int i3] h (ab_Pv r) := ab_met (by decide +kernel) (by decide +kernel) (Nat.le_of_ble_eq_true rfl) rfl (x_X11_addMoves ht0 hf)
set_option maxHeartbeats 4000000 in
set_option maxRecDepth 100000 in
theorem x_X11_listMoves_l56 {d : Nat} {k43 : Int32 → ab_HP → Option ab_HP} {t0 : Nat} {r : ab_HP} (ht0 : (ab_shp t0).1 = 0) (hk43 : ∀ (i1 : Int32) (h : ab_HP), k43 i1 h = some r → ab_T mX11_listMoves (d + 2) 0 0 0 0 43 [some (va_rf (some t0)), some (.int i1), none] [] h (ab_Pv r)) : ∀ (n : Nat) (i1 : Int32) (i2 : Int32) (h : ab_HP), f_X11_listMoves_l56 k43 t0 n i1 i2 h = some r → ab_T mX11_listMoves (d + 2) 0 0 0 0 56 [some (va_rf (some t0)), some (.int i1), some (.int i2)] [] h (ab_Pv r) := by
  intro n
  induction n with
  | zero =>
    intro i1 i2 h hf
    rw [f_X11_listMoves_l56] at hf
    cases hf
  | succ n ih =>
    intro i1 i2 h hf
    rw [f_X11_listMoves_l56] at hf
    refine ab_iload_n (pc2 := 57) dX11_listMoves_56 rfl rfl ?_
    refine ab_aload_n (x := _) (pc2 := 58) dX11_listMoves_57 rfl rfl ?_
    refine ab_getR (pc2 := 61) rfl ht0 fa_X11_10 dX11_listMoves_58 rfl (fun T10 => ?_)
    obtain ⟨q11, hq11, hf⟩ := ab_bind hf
    refine ab_getI (pc2 := 64) hq11 (T10 q11 hq11) fa_X11_207 (by decide) dX11_listMoves_61 rfl ?_
    refine ab_icmp_ge (tgt := 85) (pc2 := 67) dX11_listMoves_64 (by decide) rfl hf (fun c12 hf => ?_) (fun c12 hf => ?_)
    · refine ab_iinc (pc2 := 88) (v := _ + 1) (lo2 := [some (va_rf _), some (.int _), some (.int _)]) dX11_listMoves_85 rfl rfl rfl (by decide) rfl ?_
      refine ab_goto (tgt := 43) dX11_listMoves_88 (by decide) ?_
      exact ab_weak (hk43 _ _ hf) (ab_leS (ab_leS (ab_leN ab_le0)))
    · refine ab_iload_n (pc2 := 68) dX11_listMoves_67 rfl rfl ?_
      refine ab_iload_n (pc2 := 69) dX11_listMoves_68 rfl rfl ?_
      refine ab_icmp_eq (tgt := 79) (pc2 := 72) dX11_listMoves_69 (by decide) rfl hf (fun c13 hf => ?_) (fun c13 hf => ?_)
      · refine ab_iinc (pc2 := 82) (v := _ + 1) (lo2 := [some (va_rf _), some (.int _), some (.int _)]) dX11_listMoves_79 rfl rfl rfl (by decide) rfl ?_
        refine ab_goto (tgt := 56) dX11_listMoves_82 (by decide) ?_
        exact ab_weak (ih _ _ _ hf) (ab_leS (ab_leS (ab_leS ab_le0)))
      · refine ab_aload_n (x := _) (pc2 := 73) dX11_listMoves_72 rfl rfl ?_
        refine ab_iload_n (pc2 := 74) dX11_listMoves_73 rfl rfl ?_
        refine ab_iload_n (pc2 := 75) dX11_listMoves_74 rfl rfl ?_
        refine ab_iconst (pc2 := 76) (v := 4) dX11_listMoves_75 rfl ab_k_iconst_4 ?_
        obtain ⟨w14, ew14, hf⟩ := ab_bind hf
        refine ab_callV (pc2 := 79) (st := []) rfl ht0 (by decide) (m_X11_addMoves (d := (d + 0)) ht0 ew14) mf_X11_addMoves tw_266 tw_265 ts_X11_addMoves (Or.inl (by decide +kernel)) dX11_listMoves_76 rfl (by omega) (Nat.le_refl _) (Nat.le_refl _) rfl (Nat.le_of_ble_eq_true rfl) (fun v u hp => ?_)
        obtain ⟨rfl, rfl⟩ := hp
        show ab_T _ _ _ _ 0 0 79 _ ([]) _ _
        refine ab_iinc (pc2 := 82) (v := _ + 1) (lo2 := [some (va_rf _), some (.int _), some (.int _)]) dX11_listMoves_79 rfl rfl rfl (by decide) rfl ?_
        refine ab_goto (tgt := 56) dX11_listMoves_82 (by decide) ?_
        exact ab_weak (ih _ _ _ hf) (ab_leS (ab_leS (ab_leS ab_le0)))
set_option maxHeartbeats 4000000 in
set_option maxRecDepth 100000 in
theorem x_X11_listMoves_l43 {d : Nat} {t0 : Nat} {r : ab_HP} (ht0 : (ab_shp t0).1 = 0) : ∀ (n : Nat) (i1 : Int32) (h : ab_HP), f_X11_listMoves_l43 t0 n i1 h = some r → ab_T mX11_listMoves (d + 2) 0 0 0 0 43 [some (va_rf (some t0)), some (.int i1), none] [] h (ab_Pv r) := by
  intro n
  induction n with
  | zero =>
    intro i1 h hf
    rw [f_X11_listMoves_l43] at hf
    cases hf
  | succ n ih =>
    intro i1 h hf
    rw [f_X11_listMoves_l43] at hf
    refine ab_iload_n (pc2 := 44) dX11_listMoves_43 rfl rfl ?_
    refine ab_aload_n (x := _) (pc2 := 45) dX11_listMoves_44 rfl rfl ?_
    refine ab_getR (pc2 := 48) rfl ht0 fa_X11_10 dX11_listMoves_45 rfl (fun T7 => ?_)
    obtain ⟨q8, hq8, hf⟩ := ab_bind hf
    refine ab_getI (pc2 := 51) hq8 (T7 q8 hq8) fa_X11_207 (by decide) dX11_listMoves_48 rfl ?_
    refine ab_icmp_ge (tgt := 91) (pc2 := 54) dX11_listMoves_51 (by decide) rfl hf (fun c9 hf => ?_) (fun c9 hf => ?_)
    · cases Option.some.inj hf
      exact ab_retV dX11_listMoves_91 rfl (Nat.le_refl _) (Nat.le_refl _) ⟨rfl, rfl⟩
    · refine ab_iconst (pc2 := 55) (v := 0) dX11_listMoves_54 rfl ab_k_iconst_0 ?_
      refine ab_istore_n (pc2 := 56) (lo2 := [some (va_rf _), some (.int _), some (.int _)]) dX11_listMoves_55 rfl (by decide) rfl ?_
      exact ab_weak (x_X11_listMoves_l56 ht0 ih _ _ _ _ hf) (ab_leS (ab_leS (ab_leS ab_le0)))
set_option maxHeartbeats 4000000 in
set_option maxRecDepth 100000 in
theorem x_X11_listMoves_l16 {d : Nat} {t0 : Nat} {r : ab_HP} (ht0 : (ab_shp t0).1 = 0) : ∀ (n : Nat) (i1 : Int32) (h : ab_HP), f_X11_listMoves_l16 t0 n i1 h = some r → ab_T mX11_listMoves (d + 2) 0 0 0 0 16 [some (va_rf (some t0)), some (.int i1), none] [] h (ab_Pv r) := by
  intro n
  induction n with
  | zero =>
    intro i1 h hf
    rw [f_X11_listMoves_l16] at hf
    cases hf
  | succ n ih =>
    intro i1 h hf
    rw [f_X11_listMoves_l16] at hf
    refine ab_iload_n (pc2 := 17) dX11_listMoves_16 rfl rfl ?_
    refine ab_aload_n (x := _) (pc2 := 18) dX11_listMoves_17 rfl rfl ?_
    refine ab_getR (pc2 := 21) rfl ht0 fa_X11_10 dX11_listMoves_18 rfl (fun T3 => ?_)
    obtain ⟨q4, hq4, hf⟩ := ab_bind hf
    refine ab_getI (pc2 := 24) hq4 (T3 q4 hq4) fa_X11_207 (by decide) dX11_listMoves_21 rfl ?_
    refine ab_icmp_ge (tgt := 41) (pc2 := 27) dX11_listMoves_24 (by decide) rfl hf (fun c5 hf => ?_) (fun c5 hf => ?_)
    · refine ab_iconst (pc2 := 42) (v := 0) dX11_listMoves_41 rfl ab_k_iconst_0 ?_
      refine ab_istore_n (pc2 := 43) (lo2 := [some (va_rf _), some (.int _), none]) dX11_listMoves_42 rfl (by decide) rfl ?_
      exact ab_weak (x_X11_listMoves_l43 ht0 _ _ _ hf) (ab_leS (ab_leS (ab_leN ab_le0)))
    · refine ab_aload_n (x := _) (pc2 := 28) dX11_listMoves_27 rfl rfl ?_
      refine ab_iload_n (pc2 := 29) dX11_listMoves_28 rfl rfl ?_
      refine ab_bipush (pc2 := 31) (v := 9) dX11_listMoves_29 rfl ab_k_bipush_9 ?_
      refine ab_iconst (pc2 := 32) (v := 2) dX11_listMoves_31 rfl ab_k_iconst_2 ?_
      obtain ⟨w6, ew6, hf⟩ := ab_bind hf
      refine ab_callV (pc2 := 35) (st := []) rfl ht0 (by decide) (m_X11_addMoves (d := (d + 0)) ht0 ew6) mf_X11_addMoves tw_266 tw_265 ts_X11_addMoves (Or.inl (by decide +kernel)) dX11_listMoves_32 rfl (by omega) (Nat.le_refl _) (Nat.le_refl _) rfl (Nat.le_of_ble_eq_true rfl) (fun v u hp => ?_)
      obtain ⟨rfl, rfl⟩ := hp
      show ab_T _ _ _ _ 0 0 35 _ ([]) _ _
      refine ab_iinc (pc2 := 38) (v := _ + 1) (lo2 := [some (va_rf _), some (.int _), none]) dX11_listMoves_35 rfl rfl rfl (by decide) rfl ?_
      refine ab_goto (tgt := 16) dX11_listMoves_38 (by decide) ?_
      exact ab_weak (ih _ _ hf) (ab_leS (ab_leS (ab_leN ab_le0)))
set_option maxHeartbeats 4000000 in
set_option maxRecDepth 100000 in
theorem x_X11_listMoves {d : Nat} {t0 : Nat} {h : ab_HP} {r : ab_HP} (ht0 : (ab_shp t0).1 = 0) (hf : f_X11_listMoves t0 h = some r) : ab_T mX11_listMoves (d + 2) 0 0 0 0 0 [some (va_rf (some t0)), none, none] [] h (ab_Pv r) := by
  unfold f_X11_listMoves at hf
  refine ab_aload_n (x := _) (pc2 := 1) dX11_listMoves_0 rfl rfl ?_
  refine ab_iconst (pc2 := 2) (v := 0) dX11_listMoves_1 rfl ab_k_iconst_0 ?_
  have hf := ab_let_e hf
  refine ab_putI (pc2 := 5) rfl ht0 fa_X11_333 (Or.inl rfl) (fun z => by cases z) dX11_listMoves_2 rfl ?_
  refine ab_aload_n (x := _) (pc2 := 6) dX11_listMoves_5 rfl rfl ?_
  refine ab_bipush (pc2 := 8) (v := 9) dX11_listMoves_6 rfl ab_k_bipush_9 ?_
  refine ab_bipush (pc2 := 10) (v := 9) dX11_listMoves_8 rfl ab_k_bipush_9 ?_
  refine ab_iconst (pc2 := 11) (v := 1) dX11_listMoves_10 rfl ab_k_iconst_1 ?_
  obtain ⟨w2, ew2, hf⟩ := ab_bind hf
  refine ab_callV (pc2 := 14) (st := []) rfl ht0 (by decide) (m_X11_addMoves (d := (d + 0)) ht0 ew2) mf_X11_addMoves tw_266 tw_265 ts_X11_addMoves (Or.inl (by decide +kernel)) dX11_listMoves_11 rfl (by omega) (Nat.le_refl _) (Nat.le_refl _) rfl (Nat.le_of_ble_eq_true rfl) (fun v u hp => ?_)
  obtain ⟨rfl, rfl⟩ := hp
  show ab_T _ _ _ _ 0 0 14 _ ([]) _ _
  refine ab_iconst (pc2 := 15) (v := 0) dX11_listMoves_14 rfl ab_k_iconst_0 ?_
  refine ab_istore_n (pc2 := 16) (lo2 := [some (va_rf _), some (.int _), none]) dX11_listMoves_15 rfl (by decide) rfl ?_
  exact ab_weak (x_X11_listMoves_l16 ht0 _ _ _ hf) (ab_leS (ab_leS (ab_leN ab_le0)))
set_option maxHeartbeats 4000000 in
set_option maxRecDepth 100000 in
theorem m_X11_listMoves {d : Nat} {t0 : Nat} {h : ab_HP} {r : ab_HP} (ht0 : (ab_shp t0).1 = 0) (hf : f_X11_listMoves t0 h = some r) : ab_MET mX11_listMoves (d + 2) 0 0 [va_rf (some t0)] h (ab_Pv r) := ab_met (by decide +kernel) (by decide +kernel) (Nat.le_of_ble_eq_true rfl) rfl (x_X11_listMoves ht0 hf)
set_option maxHeartbeats 4000000 in
set_option maxRecDepth 100000 in
theorem x_X11_playMove {d : Nat} {t0 : Nat} {i1 : Int32} {i2 : Int32} {i3 : Int32} {h : ab_HP} {r : ab_HP} (ht0 : (ab_shp t0).1 = 0) (hf : f_X11_playMove t0 i1 i2 i3 h = some r) : ab_T mX11_playMove (d + 4) 0 0 0 0 0 [some (va_rf (some t0)), some (.int i1), some (.int i2), some (.int i3)] [] h (ab_Pv r) := by
  unfold f_X11_playMove at hf
  refine ab_aload_n (x := _) (pc2 := 1) dX11_playMove_0 rfl rfl ?_
  refine ab_getR (pc2 := 4) rfl ht0 fa_X11_25 dX11_playMove_1 rfl (fun T1 => ?_)
  refine ab_aload_n (x := _) (pc2 := 5) dX11_playMove_4 rfl rfl ?_
  refine ab_getR (pc2 := 8) rfl ht0 fa_X11_10 dX11_playMove_5 rfl (fun T2 => ?_)
  obtain ⟨q3, hq3, hf⟩ := ab_bind hf
  obtain ⟨w4, ew4, hf⟩ := ab_bind hf
  refine ab_callV (pc2 := 11) (st := []) hq3 (T1 q3 hq3) (by decide) (m_X10_open (d := (d + 3)) (T1 q3 hq3) T2 ew4) mf_X10_open tw_158 tw_157 ts_X10_open (Or.inl (by decide +kernel)) dX11_playMove_8 rfl (by omega) (Nat.le_refl _) (Nat.le_refl _) rfl (Nat.le_of_ble_eq_true rfl) (fun v u hp => ?_)
  obtain ⟨rfl, rfl⟩ := hp
  show ab_T _ _ _ _ 0 0 11 _ ([]) _ _
  refine ab_aload_n (x := _) (pc2 := 12) dX11_playMove_11 rfl rfl ?_
  refine ab_getR (pc2 := 15) rfl ht0 fa_X11_25 dX11_playMove_12 rfl (fun T5 => ?_)
  refine ab_aload_n (x := _) (pc2 := 16) dX11_playMove_15 rfl rfl ?_
  refine ab_getR (pc2 := 19) rfl ht0 fa_X11_10 dX11_playMove_16 rfl (fun T6 => ?_)
  refine ab_iload_n (pc2 := 20) dX11_playMove_19 rfl rfl ?_
  refine ab_bipush (pc2 := 22) (v := 10) dX11_playMove_20 rfl ab_k_bipush_10 ?_
  refine ab_idiv (pc2 := 23) dX11_playMove_22 rfl (by decide) ?_
  refine ab_bipush (pc2 := 25) (v := 10) dX11_playMove_23 rfl ab_k_bipush_10 ?_
  refine ab_irem (pc2 := 26) dX11_playMove_25 rfl (by decide) ?_
  obtain ⟨q7, hq7, hf⟩ := ab_bind hf
  obtain ⟨w8, ew8, hf⟩ := ab_bind hf
  refine ab_callV (pc2 := 29) (st := [_]) hq7 (T6 q7 hq7) (by decide) (m_X9_deedAt (d := (d + 3)) (T6 q7 hq7) ew8) mf_X9_deedAt tw_127 tw_18 ts_X9_deedAt (Or.inl (by decide +kernel)) dX11_playMove_26 rfl (by omega) (Nat.le_refl _) (Nat.le_refl _) rfl (Nat.le_of_ble_eq_true rfl) (fun v u hp => ?_)
  obtain ⟨rfl, rfl, T9⟩ := hp
  show ab_T _ _ _ _ 0 0 29 _ (va_rf _ :: [_]) _ _
  obtain ⟨q10, hq10, hf⟩ := ab_bind hf
  obtain ⟨w11, ew11, hf⟩ := ab_bind hf
  refine ab_callV (pc2 := 32) (st := []) hq10 (T5 q10 hq10) (by decide) (m_X10_add (d := (d + 3)) (T5 q10 hq10) T9 ew11) mf_X10_add tw_160 tw_159 ts_X10_add (Or.inl (by decide +kernel)) dX11_playMove_29 rfl (by omega) (Nat.le_refl _) (Nat.le_refl _) rfl (Nat.le_of_ble_eq_true rfl) (fun v u hp => ?_)
  obtain ⟨rfl, rfl⟩ := hp
  show ab_T _ _ _ _ 0 0 32 _ ([]) _ _
  refine ab_aload_n (x := _) (pc2 := 33) dX11_playMove_32 rfl rfl ?_
  refine ab_getR (pc2 := 36) rfl ht0 fa_X11_25 dX11_playMove_33 rfl (fun T12 => ?_)
  refine ab_aload_n (x := _) (pc2 := 37) dX11_playMove_36 rfl rfl ?_
  refine ab_getR (pc2 := 40) rfl ht0 fa_X11_10 dX11_playMove_37 rfl (fun T13 => ?_)
  refine ab_iload_n (pc2 := 41) dX11_playMove_40 rfl rfl ?_
  refine ab_bipush (pc2 := 43) (v := 10) dX11_playMove_41 rfl ab_k_bipush_10 ?_
  refine ab_irem (pc2 := 44) dX11_playMove_43 rfl (by decide) ?_
  obtain ⟨q14, hq14, hf⟩ := ab_bind hf
  obtain ⟨w15, ew15, hf⟩ := ab_bind hf
  refine ab_callV (pc2 := 47) (st := [_]) hq14 (T13 q14 hq14) (by decide) (m_X9_deedAt (d := (d + 3)) (T13 q14 hq14) ew15) mf_X9_deedAt tw_127 tw_18 ts_X9_deedAt (Or.inl (by decide +kernel)) dX11_playMove_44 rfl (by omega) (Nat.le_refl _) (Nat.le_refl _) rfl (Nat.le_of_ble_eq_true rfl) (fun v u hp => ?_)
  obtain ⟨rfl, rfl, T16⟩ := hp
  show ab_T _ _ _ _ 0 0 47 _ (va_rf _ :: [_]) _ _
  obtain ⟨q17, hq17, hf⟩ := ab_bind hf
  obtain ⟨w18, ew18, hf⟩ := ab_bind hf
  refine ab_callV (pc2 := 50) (st := []) hq17 (T12 q17 hq17) (by decide) (m_X10_add (d := (d + 3)) (T12 q17 hq17) T16 ew18) mf_X10_add tw_160 tw_159 ts_X10_add (Or.inl (by decide +kernel)) dX11_playMove_47 rfl (by omega) (Nat.le_refl _) (Nat.le_refl _) rfl (Nat.le_of_ble_eq_true rfl) (fun v u hp => ?_)
  obtain ⟨rfl, rfl⟩ := hp
  show ab_T _ _ _ _ 0 0 50 _ ([]) _ _
  refine ab_aload_n (x := _) (pc2 := 51) dX11_playMove_50 rfl rfl ?_
  refine ab_getR (pc2 := 54) rfl ht0 fa_X11_25 dX11_playMove_51 rfl (fun T19 => ?_)
  refine ab_iload_n (pc2 := 55) dX11_playMove_54 rfl rfl ?_
  refine ab_iload_n (pc2 := 56) dX11_playMove_55 rfl rfl ?_
  obtain ⟨q20, hq20, hf⟩ := ab_bind hf
  obtain ⟨w21, ew21, hf⟩ := ab_bind hf
  refine ab_callV (pc2 := 59) (st := []) hq20 (T19 q20 hq20) (by decide) (m_X10_begin (d := (d + 3)) (T19 q20 hq20) ew21) mf_X10_begin tw_233 tw_184 ts_X10_begin (Or.inl (by decide +kernel)) dX11_playMove_56 rfl (by omega) (Nat.le_refl _) (Nat.le_refl _) rfl (Nat.le_of_ble_eq_true rfl) (fun v u hp => ?_)
  obtain ⟨rfl, rfl⟩ := hp
  show ab_T _ _ _ _ 0 0 59 _ ([]) _ _
  refine ab_aload_n (x := _) (pc2 := 60) dX11_playMove_59 rfl rfl ?_
  refine ab_getR (pc2 := 63) rfl ht0 fa_X11_25 dX11_playMove_60 rfl (fun T22 => ?_)
  refine ab_iload_n (pc2 := 64) dX11_playMove_63 rfl rfl ?_
  refine ab_bipush (pc2 := 66) (v := 100) dX11_playMove_64 rfl ab_k_bipush_100 ?_
  refine ab_idiv (pc2 := 67) dX11_playMove_66 rfl (by decide) ?_
  obtain ⟨q23, hq23, hf⟩ := ab_bind hf
  obtain ⟨w24, ew24, hf⟩ := ab_bind hf
  refine ab_callV (pc2 := 70) (st := []) hq23 (T22 q23 hq23) (by decide) (m_X10_evenYear (d := (d + 0)) (T22 q23 hq23) ew24) mf_X10_evenYear tw_234 tw_186 ts_X10_evenYear (Or.inl (by decide +kernel)) dX11_playMove_67 rfl (by omega) (Nat.le_refl _) (Nat.le_refl _) rfl (Nat.le_of_ble_eq_true rfl) (fun v u hp => ?_)
  obtain ⟨rfl, rfl⟩ := hp
  show ab_T _ _ _ _ 0 0 70 _ ([]) _ _
  refine ab_aload_n (x := _) (pc2 := 71) dX11_playMove_70 rfl rfl ?_
  refine ab_getR (pc2 := 74) rfl ht0 fa_X11_25 dX11_playMove_71 rfl (fun T25 => ?_)
  obtain ⟨q26, hq26, hf⟩ := ab_bind hf
  obtain ⟨w27, ew27, hf⟩ := ab_bind hf
  refine ab_callV (pc2 := 77) (st := []) hq26 (T25 q26 hq26) (by decide) (m_X10_oddYear (d := (d + 0)) (T25 q26 hq26) ew27) mf_X10_oddYear tw_267 tw_188 ts_X10_oddYear (Or.inl (by decide +kernel)) dX11_playMove_74 rfl (by omega) (Nat.le_refl _) (Nat.le_refl _) rfl (Nat.le_of_ble_eq_true rfl) (fun v u hp => ?_)
  obtain ⟨rfl, rfl⟩ := hp
  show ab_T _ _ _ _ 0 0 77 _ ([]) _ _
  cases Option.some.inj hf
  exact ab_retV dX11_playMove_77 rfl (Nat.le_refl _) (Nat.le_refl _) ⟨rfl, rfl⟩
set_option maxHeartbeats 4000000 in
set_option maxRecDepth 100000 in
theorem m_X11_playMove {d : Nat} {t0 : Nat} {i1 : Int32} {i2 : Int32} {i3 : Int32} {h : ab_HP} {r : ab_HP} (ht0 : (ab_shp t0).1 = 0) (hf : f_X11_playMove t0 i1 i2 i3 h = some r) : ab_MET mX11_playMove (d + 4) 0 0 [va_rf (some t0), .int i1, .int i2, .int i3] h (ab_Pv r) := ab_met (by decide +kernel) (by decide +kernel) (Nat.le_of_ble_eq_true rfl) rfl (x_X11_playMove ht0 hf)
set_option maxHeartbeats 4000000 in
set_option maxRecDepth 100000 in
theorem x_X11_worthOfMarks_l4 {d : Nat}  {r : Int32}  : ∀ (n : Nat) (i0 : Int32) (i1 : Option Nat) (i2 : Int32) (i3 : Int32) (h : ab_HP), (∀ z, i1 = some z → (ab_shp z).1 = 3) → f_X11_worthOfMarks_l4  n i0 i1 i2 i3 h = some r → ab_T mX11_worthOfMarks (d + 2) 0 0 0 0 4 [some (.int i0), some (va_rf i1), some (.int i2), some (.int i3)] [] h (ab_Pi r h) := by
  intro n
  induction n with
  | zero =>
    intro i0 i1 i2 i3 h T_i1 hf
    rw [f_X11_worthOfMarks_l4] at hf
    cases hf
  | succ n ih =>
    intro i0 i1 i2 i3 h T_i1 hf
    rw [f_X11_worthOfMarks_l4] at hf
    refine ab_iload_n (pc2 := 5) dX11_worthOfMarks_4 rfl rfl ?_
    refine ab_bipush (pc2 := 7) (v := 10) dX11_worthOfMarks_5 rfl ab_k_bipush_10 ?_
    refine ab_icmp_ge (tgt := 32) (pc2 := 10) dX11_worthOfMarks_7 (by decide) rfl hf (fun c1 hf => ?_) (fun c1 hf => ?_)
    · refine ab_iload_n (pc2 := 33) dX11_worthOfMarks_32 rfl rfl ?_
      cases Option.some.inj hf
      exact ab_retI dX11_worthOfMarks_33 (Or.inl rfl) (Nat.le_refl _) (Nat.le_refl _) ⟨rfl, rfl⟩
    · refine ab_iload_n (pc2 := 11) dX11_worthOfMarks_10 rfl rfl ?_
      refine ab_iload_n (pc2 := 12) dX11_worthOfMarks_11 rfl rfl ?_
      refine ab_ishr (pc2 := 13) dX11_worthOfMarks_12 rfl ?_
      refine ab_iconst (pc2 := 14) (v := 1) dX11_worthOfMarks_13 rfl ab_k_iconst_1 ?_
      refine ab_iand (pc2 := 15) dX11_worthOfMarks_14 rfl ?_
      refine ab_if_eq (tgt := 26) (pc2 := 18) dX11_worthOfMarks_15 (by decide) rfl hf (fun c2 hf => ?_) (fun c2 hf => ?_)
      · refine ab_iinc (pc2 := 29) (v := _ + 1) (lo2 := [some (.int _), some (va_rf _), some (.int _), some (.int _)]) dX11_worthOfMarks_26 rfl rfl rfl (by decide) rfl ?_
        refine ab_goto (tgt := 4) dX11_worthOfMarks_29 (by decide) ?_
        exact ab_weak (ih _ _ _ _ _ T_i1 hf) (ab_leS (ab_leS (ab_leS (ab_leS ab_le0))))
      · refine ab_iload_n (pc2 := 19) dX11_worthOfMarks_18 rfl rfl ?_
        refine ab_aload_n (x := _) (pc2 := 20) dX11_worthOfMarks_19 rfl rfl ?_
        refine ab_iload_n (pc2 := 21) dX11_worthOfMarks_20 rfl rfl ?_
        obtain ⟨q3, hq3, hf⟩ := ab_bind hf
        obtain ⟨w4, ew4, hf⟩ := ab_bind hf
        refine ab_callV (pc2 := 24) (st := [_]) hq3 (T_i1 q3 hq3) (by decide) (m_X6_read (d := (d + 0)) (T_i1 q3 hq3) ew4) mf_X6_read tw_154 tw_24 ts_X6_read (Or.inl (by decide +kernel)) dX11_worthOfMarks_21 rfl (by omega) (Nat.le_refl _) (Nat.le_refl _) rfl (Nat.le_of_ble_eq_true rfl) (fun v u hp => ?_)
        obtain ⟨rfl, rfl⟩ := hp
        show ab_T _ _ _ _ 0 0 24 _ (.int _ :: [_]) _ _
        refine ab_iadd (pc2 := 25) dX11_worthOfMarks_24 rfl ?_
        refine ab_istore_n (pc2 := 26) (lo2 := [some (.int _), some (va_rf _), some (.int _), some (.int _)]) dX11_worthOfMarks_25 rfl (by decide) rfl ?_
        refine ab_iinc (pc2 := 29) (v := _ + 1) (lo2 := [some (.int _), some (va_rf _), some (.int _), some (.int _)]) dX11_worthOfMarks_26 rfl rfl rfl (by decide) rfl ?_
        refine ab_goto (tgt := 4) dX11_worthOfMarks_29 (by decide) ?_
        exact ab_weak (ih _ _ _ _ _ T_i1 hf) (ab_leS (ab_leS (ab_leS (ab_leS ab_le0))))
set_option maxHeartbeats 4000000 in
set_option maxRecDepth 100000 in
theorem x_X11_worthOfMarks {d : Nat} {i0 : Int32} {i1 : Option Nat} {h : ab_HP} {r : Int32} (T_i1 : ∀ z, i1 = some z → (ab_shp z).1 = 3) (hf : f_X11_worthOfMarks i0 i1 h = some r) : ab_T mX11_worthOfMarks (d + 2) 0 0 0 0 0 [some (.int i0), some (va_rf i1), none, none] [] h (ab_Pi r h) := by
  unfold f_X11_worthOfMarks at hf
  refine ab_iconst (pc2 := 1) (v := 0) dX11_worthOfMarks_0 rfl ab_k_iconst_0 ?_
  refine ab_istore_n (pc2 := 2) (lo2 := [some (.int _), some (va_rf _), some (.int _), none]) dX11_worthOfMarks_1 rfl (by decide) rfl ?_
  refine ab_iconst (pc2 := 3) (v := 0) dX11_worthOfMarks_2 rfl ab_k_iconst_0 ?_
  refine ab_istore_n (pc2 := 4) (lo2 := [some (.int _), some (va_rf _), some (.int _), some (.int _)]) dX11_worthOfMarks_3 rfl (by decide) rfl ?_
  exact ab_weak (x_X11_worthOfMarks_l4  _ _ _ _ _ _ T_i1 hf) (ab_leS (ab_leS (ab_leS (ab_leS ab_le0))))
set_option maxHeartbeats 4000000 in
set_option maxRecDepth 100000 in
theorem m_X11_worthOfMarks {d : Nat} {i0 : Int32} {i1 : Option Nat} {h : ab_HP} {r : Int32} (T_i1 : ∀ z, i1 = some z → (ab_shp z).1 = 3) (hf : f_X11_worthOfMarks i0 i1 h = some r) : ab_MET mX11_worthOfMarks (d + 2) 0 0 [.int i0, va_rf i1] h (ab_Pi r h) := ab_met (by decide +kernel) (by decide +kernel) (by simp [ab_lo, ab_rf1, Value.category]) (by simp [ab_lo0, ab_lo, ab_rf1, Value.category, List.replicate]) (x_X11_worthOfMarks T_i1 hf)
set_option maxHeartbeats 4000000 in
set_option maxRecDepth 100000 in
theorem x_X11_worthOfMove_l61 {d : Nat} {t0 : Nat} {r : (Int32 × ab_HP)} (ht0 : (ab_shp t0).1 = 0) : ∀ (n : Nat) (i3 : Option Nat) (i4 : Int32) (i5 : Int32) (i6 : Int32) (i7 : Int32) (h : ab_HP), (∀ z, i3 = some z → (ab_shp z).1 = 3) → f_X11_worthOfMove_l61 t0 n i3 i4 i5 i6 i7 h = some r → ab_T mX11_worthOfMove (d + 5) 0 0 0 0 61 [some (va_rf (some t0)), none, none, some (va_rf i3), some (.int i4), some (.int i5), some (.int i6), some (.int i7)] [] h (ab_Pi r.1 r.2) := by
  intro n
  induction n with
  | zero =>
    intro i3 i4 i5 i6 i7 h T_i3 hf
    rw [f_X11_worthOfMove_l61] at hf
    cases hf
  | succ n ih =>
    intro i3 i4 i5 i6 i7 h T_i3 hf
    rw [f_X11_worthOfMove_l61] at hf
    refine ab_iload (pc2 := 63) dX11_worthOfMove_61 rfl rfl ?_
    refine ab_aload_n (x := _) (pc2 := 64) dX11_worthOfMove_63 rfl rfl ?_
    refine ab_getI (pc2 := 67) rfl ht0 fa_X11_333 (by decide) dX11_worthOfMove_64 rfl ?_
    refine ab_icmp_ge (tgt := 111) (pc2 := 70) dX11_worthOfMove_67 (by decide) rfl hf (fun c14 hf => ?_) (fun c14 hf => ?_)
    · refine ab_iload (pc2 := 113) dX11_worthOfMove_111 rfl rfl ?_
      cases Option.some.inj hf
      exact ab_retI dX11_worthOfMove_113 (Or.inl rfl) (Nat.le_refl _) (Nat.le_refl _) ⟨rfl, rfl⟩
    · refine ab_aload_n (x := _) (pc2 := 71) dX11_worthOfMove_70 rfl rfl ?_
      refine ab_aload_n (x := _) (pc2 := 72) dX11_worthOfMove_71 rfl rfl ?_
      refine ab_getR (pc2 := 75) rfl ht0 fa_X11_39 dX11_worthOfMove_72 rfl (fun T15 => ?_)
      refine ab_iload (pc2 := 77) dX11_worthOfMove_75 rfl rfl ?_
      obtain ⟨w16, ew16, hf⟩ := ab_bind hf
      refine ab_callS (pc2 := 80) (st := [_]) (m_X11_at (d := (d + 4)) T15 ew16) mf_X11_at tw_251 tw_23 dX11_worthOfMove_77 rfl (by omega) (Nat.le_refl _) (Nat.le_refl _) rfl (Nat.le_of_ble_eq_true rfl) (fun v u hp => ?_)
      obtain ⟨rfl, rfl⟩ := hp
      show ab_T _ _ _ _ 0 0 80 _ (.int _ :: [_]) _ _
      refine ab_iload (pc2 := 82) dX11_worthOfMove_80 rfl rfl ?_
      refine ab_iload (pc2 := 84) dX11_worthOfMove_82 rfl rfl ?_
      obtain ⟨w17, ew17, hf⟩ := ab_bind hf
      refine ab_callV (pc2 := 87) (st := []) rfl ht0 (by decide) (m_X11_playMove (d := (d + 0)) ht0 ew17) mf_X11_playMove tw_269 tw_268 ts_X11_playMove (Or.inl (by decide +kernel)) dX11_worthOfMove_84 rfl (by omega) (Nat.le_refl _) (Nat.le_refl _) rfl (Nat.le_of_ble_eq_true rfl) (fun v u hp => ?_)
      obtain ⟨rfl, rfl⟩ := hp
      show ab_T _ _ _ _ 0 0 87 _ ([]) _ _
      refine ab_iload (pc2 := 89) dX11_worthOfMove_87 rfl rfl ?_
      refine ab_aload_n (x := _) (pc2 := 90) dX11_worthOfMove_89 rfl rfl ?_
      refine ab_getR (pc2 := 93) rfl ht0 fa_X11_25 dX11_worthOfMove_90 rfl (fun T18 => ?_)
      obtain ⟨q19, hq19, hf⟩ := ab_bind hf
      refine ab_getI (pc2 := 96) hq19 (T18 q19 hq19) fa_X11_155 (by decide) dX11_worthOfMove_93 rfl ?_
      refine ab_aload_n (x := _) (pc2 := 97) dX11_worthOfMove_96 rfl rfl ?_
      obtain ⟨w20, ew20, hf⟩ := ab_bind hf
      refine ab_callS (pc2 := 100) (st := [_]) (m_X11_worthOfMarks (d := (d + 2)) T_i3 ew20) mf_X11_worthOfMarks tw_270 tw_271 dX11_worthOfMove_97 rfl (by omega) (Nat.le_refl _) (Nat.le_refl _) rfl (Nat.le_of_ble_eq_true rfl) (fun v u hp => ?_)
      obtain ⟨rfl, rfl⟩ := hp
      show ab_T _ _ _ _ 0 0 100 _ (.int _ :: [_]) _ _
      refine ab_mmax (pc2 := 103) tw_272 tw_max_s tw_math tw_max_c (by omega) (Nat.le_of_ble_eq_true rfl) (Nat.le_refl _) (Nat.le_refl _) dX11_worthOfMove_100 rfl ?_
      refine ab_istore (pc2 := 105) (lo2 := [some (va_rf _), none, none, some (va_rf _), some (.int _), some (.int _), some (.int _), some (.int _)]) dX11_worthOfMove_103 rfl (by decide) rfl ?_
      refine ab_iinc (pc2 := 108) (v := _ + 1) (lo2 := [some (va_rf _), none, none, some (va_rf _), some (.int _), some (.int _), some (.int _), some (.int _)]) dX11_worthOfMove_105 rfl rfl rfl (by decide) rfl ?_
      refine ab_goto (tgt := 61) dX11_worthOfMove_108 (by decide) ?_
      exact ab_weak (ih _ _ _ _ _ _ T_i3 hf) (ab_leS (ab_leN (ab_leN (ab_leS (ab_leS (ab_leS (ab_leS (ab_leS ab_le0))))))))
set_option maxHeartbeats 4000000 in
set_option maxRecDepth 100000 in
theorem x_X11_worthOfMove {d : Nat} {t0 : Nat} {i1 : Int32} {i2 : Int32} {i3 : Option Nat} {h : ab_HP} {r : (Int32 × ab_HP)} (ht0 : (ab_shp t0).1 = 0) (T_i3 : ∀ z, i3 = some z → (ab_shp z).1 = 3) (hf : f_X11_worthOfMove t0 i1 i2 i3 h = some r) : ab_T mX11_worthOfMove (d + 5) 0 0 0 0 0 [some (va_rf (some t0)), some (.int i1), some (.int i2), some (va_rf i3), none, none, none, none] [] h (ab_Pi r.1 r.2) := by
  unfold f_X11_worthOfMove at hf
  refine ab_aload_n (x := _) (pc2 := 1) dX11_worthOfMove_0 rfl rfl ?_
  refine ab_iload_n (pc2 := 2) dX11_worthOfMove_1 rfl rfl ?_
  refine ab_aload_n (x := _) (pc2 := 3) dX11_worthOfMove_2 rfl rfl ?_
  refine ab_getR (pc2 := 6) rfl ht0 fa_X11_10 dX11_worthOfMove_3 rfl (fun T1 => ?_)
  obtain ⟨q2, hq2, hf⟩ := ab_bind hf
  refine ab_getI (pc2 := 9) hq2 (T1 q2 hq2) fa_X11_94 (by decide) dX11_worthOfMove_6 rfl ?_
  refine ab_aload_n (x := _) (pc2 := 10) dX11_worthOfMove_9 rfl rfl ?_
  refine ab_getR (pc2 := 13) rfl ht0 fa_X11_10 dX11_worthOfMove_10 rfl (fun T3 => ?_)
  obtain ⟨q4, hq4, hf⟩ := ab_bind hf
  refine ab_getI (pc2 := 16) hq4 (T3 q4 hq4) fa_X11_97 (by decide) dX11_worthOfMove_13 rfl ?_
  obtain ⟨w5, ew5, hf⟩ := ab_bind hf
  refine ab_callV (pc2 := 19) (st := []) rfl ht0 (by decide) (m_X11_playMove (d := (d + 0)) ht0 ew5) mf_X11_playMove tw_269 tw_268 ts_X11_playMove (Or.inl (by decide +kernel)) dX11_worthOfMove_16 rfl (by omega) (Nat.le_refl _) (Nat.le_refl _) rfl (Nat.le_of_ble_eq_true rfl) (fun v u hp => ?_)
  obtain ⟨rfl, rfl⟩ := hp
  show ab_T _ _ _ _ 0 0 19 _ ([]) _ _
  refine ab_aload_n (x := _) (pc2 := 20) dX11_worthOfMove_19 rfl rfl ?_
  refine ab_getR (pc2 := 23) rfl ht0 fa_X11_25 dX11_worthOfMove_20 rfl (fun T6 => ?_)
  obtain ⟨q7, hq7, hf⟩ := ab_bind hf
  refine ab_getI (pc2 := 26) hq7 (T6 q7 hq7) fa_X11_155 (by decide) dX11_worthOfMove_23 rfl ?_
  refine ab_aload_n (x := _) (pc2 := 27) dX11_worthOfMove_26 rfl rfl ?_
  obtain ⟨w8, ew8, hf⟩ := ab_bind hf
  refine ab_callS (pc2 := 30) (st := []) (m_X11_worthOfMarks (d := (d + 2)) T_i3 ew8) mf_X11_worthOfMarks tw_270 tw_271 dX11_worthOfMove_27 rfl (by omega) (Nat.le_refl _) (Nat.le_refl _) rfl (Nat.le_of_ble_eq_true rfl) (fun v u hp => ?_)
  obtain ⟨rfl, rfl⟩ := hp
  show ab_T _ _ _ _ 0 0 30 _ (.int _ :: []) _ _
  refine ab_istore (pc2 := 32) (lo2 := [some (va_rf _), some (.int _), some (.int _), some (va_rf _), some (.int _), none, none, none]) dX11_worthOfMove_30 rfl (by decide) rfl ?_
  refine ab_iload_n (pc2 := 33) dX11_worthOfMove_32 rfl rfl ?_
  refine ab_iconst (pc2 := 34) (v := 1) dX11_worthOfMove_33 rfl ab_k_iconst_1 ?_
  refine ab_icmp_ne (tgt := 40) (pc2 := 37) dX11_worthOfMove_34 (by decide) rfl hf (fun c9 hf => ?_) (fun c9 hf => ?_)
  · refine ab_aload_n (x := _) (pc2 := 41) dX11_worthOfMove_40 rfl rfl ?_
    refine ab_getR (pc2 := 44) rfl ht0 fa_X11_25 dX11_worthOfMove_41 rfl (fun T10 => ?_)
    obtain ⟨q11, hq11, hf⟩ := ab_bind hf
    refine ab_getI (pc2 := 47) hq11 (T10 q11 hq11) fa_X11_155 (by decide) dX11_worthOfMove_44 rfl ?_
    refine ab_istore (pc2 := 49) (lo2 := [some (va_rf _), some (.int _), some (.int _), some (va_rf _), some (.int _), some (.int _), none, none]) dX11_worthOfMove_47 rfl (by decide) rfl ?_
    refine ab_aload_n (x := _) (pc2 := 50) dX11_worthOfMove_49 rfl rfl ?_
    refine ab_getR (pc2 := 53) rfl ht0 fa_X11_25 dX11_worthOfMove_50 rfl (fun T12 => ?_)
    obtain ⟨q13, hq13, hf⟩ := ab_bind hf
    refine ab_getI (pc2 := 56) hq13 (T12 q13 hq13) fa_X11_162 (by decide) dX11_worthOfMove_53 rfl ?_
    refine ab_istore (pc2 := 58) (lo2 := [some (va_rf _), some (.int _), some (.int _), some (va_rf _), some (.int _), some (.int _), some (.int _), none]) dX11_worthOfMove_56 rfl (by decide) rfl ?_
    refine ab_iconst (pc2 := 59) (v := 1) dX11_worthOfMove_58 rfl ab_k_iconst_1 ?_
    refine ab_istore (pc2 := 61) (lo2 := [some (va_rf _), some (.int _), some (.int _), some (va_rf _), some (.int _), some (.int _), some (.int _), some (.int _)]) dX11_worthOfMove_59 rfl (by decide) rfl ?_
    exact ab_weak (x_X11_worthOfMove_l61 ht0 _ _ _ _ _ _ _ T_i3 hf) (ab_leS (ab_leN (ab_leN (ab_leS (ab_leS (ab_leS (ab_leS (ab_leS ab_le0))))))))
  · refine ab_iload (pc2 := 39) dX11_worthOfMove_37 rfl rfl ?_
    cases Option.some.inj hf
    exact ab_retI dX11_worthOfMove_39 (Or.inl rfl) (Nat.le_refl _) (Nat.le_refl _) ⟨rfl, rfl⟩
set_option maxHeartbeats 4000000 in
set_option maxRecDepth 100000 in
theorem m_X11_worthOfMove {d : Nat} {t0 : Nat} {i1 : Int32} {i2 : Int32} {i3 : Option Nat} {h : ab_HP} {r : (Int32 × ab_HP)} (ht0 : (ab_shp t0).1 = 0) (T_i3 : ∀ z, i3 = some z → (ab_shp z).1 = 3) (hf : f_X11_worthOfMove t0 i1 i2 i3 h = some r) : ab_MET mX11_worthOfMove (d + 5) 0 0 [va_rf (some t0), .int i1, .int i2, va_rf i3] h (ab_Pi r.1 r.2) := ab_met (by decide +kernel) (by decide +kernel) (by simp [ab_lo, ab_rf1, Value.category]) (by simp [ab_lo0, ab_lo, ab_rf1, Value.category, List.replicate]) (x_X11_worthOfMove ht0 T_i3 hf)
set_option maxHeartbeats 4000000 in
set_option maxRecDepth 100000 in
theorem x_X11_endedSoBefore_l2 {d : Nat} {t0 : Nat} {r : Int32} (ht0 : (ab_shp t0).1 = 0) : ∀ (n : Nat) (i1 : Int32) (i2 : Int32) (h : ab_HP), f_X11_endedSoBefore_l2 t0 n i1 i2 h = some r → ab_T mX11_endedSoBefore (d + 1) 0 0 0 0 2 [some (va_rf (some t0)), some (.int i1), some (.int i2)] [] h (ab_Pb r h) := by
  intro n
  induction n with
  | zero =>
    intro i1 i2 h hf
    rw [f_X11_endedSoBefore_l2] at hf
    cases hf
  | succ n ih =>
    intro i1 i2 h hf
    rw [f_X11_endedSoBefore_l2] at hf
    refine ab_iload_n (pc2 := 3) dX11_endedSoBefore_2 rfl rfl ?_
    refine ab_iload_n (pc2 := 4) dX11_endedSoBefore_3 rfl rfl ?_
    refine ab_icmp_ge (tgt := 34) (pc2 := 7) dX11_endedSoBefore_4 (by decide) rfl hf (fun c1 hf => ?_) (fun c1 hf => ?_)
    · refine ab_iconst (pc2 := 35) (v := 0) dX11_endedSoBefore_34 rfl ab_k_iconst_0 ?_
      cases Option.some.inj hf
      exact ab_retI dX11_endedSoBefore_35 (Or.inr ⟨rfl, (Or.inl rfl)⟩) (Nat.le_refl _) (Nat.le_refl _) ⟨rfl, rfl, (Or.inl rfl)⟩
    · refine ab_aload_n (x := _) (pc2 := 8) dX11_endedSoBefore_7 rfl rfl ?_
      refine ab_getR (pc2 := 11) rfl ht0 fa_X11_42 dX11_endedSoBefore_8 rfl (fun T2 => ?_)
      refine ab_iload_n (pc2 := 12) dX11_endedSoBefore_11 rfl rfl ?_
      obtain ⟨w3, ew3, hf⟩ := ab_bind hf
      refine ab_callS (pc2 := 15) (st := []) (m_X11_at (d := (d + 0)) T2 ew3) mf_X11_at tw_251 tw_23 dX11_endedSoBefore_12 rfl (by omega) (Nat.le_refl _) (Nat.le_refl _) rfl (Nat.le_of_ble_eq_true rfl) (fun v u hp => ?_)
      obtain ⟨rfl, rfl⟩ := hp
      show ab_T _ _ _ _ 0 0 15 _ (.int _ :: []) _ _
      refine ab_aload_n (x := _) (pc2 := 16) dX11_endedSoBefore_15 rfl rfl ?_
      refine ab_getR (pc2 := 19) rfl ht0 fa_X11_42 dX11_endedSoBefore_16 rfl (fun T4 => ?_)
      refine ab_iload_n (pc2 := 20) dX11_endedSoBefore_19 rfl rfl ?_
      obtain ⟨w5, ew5, hf⟩ := ab_bind hf
      refine ab_callS (pc2 := 23) (st := [_]) (m_X11_at (d := (d + 0)) T4 ew5) mf_X11_at tw_251 tw_23 dX11_endedSoBefore_20 rfl (by omega) (Nat.le_refl _) (Nat.le_refl _) rfl (Nat.le_of_ble_eq_true rfl) (fun v u hp => ?_)
      obtain ⟨rfl, rfl⟩ := hp
      show ab_T _ _ _ _ 0 0 23 _ (.int _ :: [_]) _ _
      refine ab_icmp_ne (tgt := 28) (pc2 := 26) dX11_endedSoBefore_23 (by decide) rfl hf (fun c6 hf => ?_) (fun c6 hf => ?_)
      · refine ab_iinc (pc2 := 31) (v := _ + 1) (lo2 := [some (va_rf _), some (.int _), some (.int _)]) dX11_endedSoBefore_28 rfl rfl rfl (by decide) rfl ?_
        refine ab_goto (tgt := 2) dX11_endedSoBefore_31 (by decide) ?_
        exact ab_weak (ih _ _ _ hf) (ab_leS (ab_leS (ab_leS ab_le0)))
      · refine ab_iconst (pc2 := 27) (v := 1) dX11_endedSoBefore_26 rfl ab_k_iconst_1 ?_
        cases Option.some.inj hf
        exact ab_retI dX11_endedSoBefore_27 (Or.inr ⟨rfl, (Or.inr rfl)⟩) (Nat.le_refl _) (Nat.le_refl _) ⟨rfl, rfl, (Or.inr rfl)⟩
set_option maxHeartbeats 4000000 in
set_option maxRecDepth 100000 in
theorem x_X11_endedSoBefore {d : Nat} {t0 : Nat} {i1 : Int32} {h : ab_HP} {r : Int32} (ht0 : (ab_shp t0).1 = 0) (hf : f_X11_endedSoBefore t0 i1 h = some r) : ab_T mX11_endedSoBefore (d + 1) 0 0 0 0 0 [some (va_rf (some t0)), some (.int i1), none] [] h (ab_Pb r h) := by
  unfold f_X11_endedSoBefore at hf
  refine ab_iconst (pc2 := 1) (v := 0) dX11_endedSoBefore_0 rfl ab_k_iconst_0 ?_
  refine ab_istore_n (pc2 := 2) (lo2 := [some (va_rf _), some (.int _), some (.int _)]) dX11_endedSoBefore_1 rfl (by decide) rfl ?_
  exact ab_weak (x_X11_endedSoBefore_l2 ht0 _ _ _ _ hf) (ab_leS (ab_leS (ab_leS ab_le0)))
set_option maxHeartbeats 4000000 in
set_option maxRecDepth 100000 in
theorem m_X11_endedSoBefore {d : Nat} {t0 : Nat} {i1 : Int32} {h : ab_HP} {r : Int32} (ht0 : (ab_shp t0).1 = 0) (hf : f_X11_endedSoBefore t0 i1 h = some r) : ab_MET mX11_endedSoBefore (d + 1) 0 0 [va_rf (some t0), .int i1] h (ab_Pb r h) := ab_met (by decide +kernel) (by decide +kernel) (Nat.le_of_ble_eq_true rfl) rfl (x_X11_endedSoBefore ht0 hf)
set_option maxHeartbeats 4000000 in
set_option maxRecDepth 100000 in
theorem x_X11_bestMove_l21 {d : Nat} {t0 : Nat} {r : (Int32 × ab_HP)} (ht0 : (ab_shp t0).1 = 0) : ∀ (n : Nat) (i1 : Int32) (i2 : Option Nat) (i3 : Int32) (i4 : Int32) (i5 : Int32) (h : ab_HP), (∀ z, i2 = some z → (ab_shp z).1 = 3) → f_X11_bestMove_l21 t0 n i1 i2 i3 i4 i5 h = some r → ab_T mX11_bestMove (d + 6) 0 0 0 0 21 [some (va_rf (some t0)), some (.int i1), some (va_rf i2), some (.int i3), some (.int i4), some (.int i5), none, none] [] h (ab_Pi r.1 r.2) := by
  intro n
  induction n with
  | zero =>
    intro i1 i2 i3 i4 i5 h T_i2 hf
    rw [f_X11_bestMove_l21] at hf
    cases hf
  | succ n ih =>
    intro i1 i2 i3 i4 i5 h T_i2 hf
    rw [f_X11_bestMove_l21] at hf
    refine ab_iload (pc2 := 23) dX11_bestMove_21 rfl rfl ?_
    refine ab_aload_n (x := _) (pc2 := 24) dX11_bestMove_23 rfl rfl ?_
    refine ab_getI (pc2 := 27) rfl ht0 fa_X11_333 (by decide) dX11_bestMove_24 rfl ?_
    refine ab_icmp_ge (tgt := 131) (pc2 := 30) dX11_bestMove_27 (by decide) rfl hf (fun c4 hf => ?_) (fun c4 hf => ?_)
    · refine ab_iload_n (pc2 := 132) dX11_bestMove_131 rfl rfl ?_
      cases Option.some.inj hf
      exact ab_retI dX11_bestMove_132 (Or.inl rfl) (Nat.le_refl _) (Nat.le_refl _) ⟨rfl, rfl⟩
    · refine ab_aload_n (x := _) (pc2 := 31) dX11_bestMove_30 rfl rfl ?_
      refine ab_getR (pc2 := 34) rfl ht0 fa_X11_39 dX11_bestMove_31 rfl (fun T5 => ?_)
      refine ab_iload (pc2 := 36) dX11_bestMove_34 rfl rfl ?_
      obtain ⟨w6, ew6, hf⟩ := ab_bind hf
      refine ab_callS (pc2 := 39) (st := []) (m_X11_at (d := (d + 5)) T5 ew6) mf_X11_at tw_251 tw_23 dX11_bestMove_36 rfl (by omega) (Nat.le_refl _) (Nat.le_refl _) rfl (Nat.le_of_ble_eq_true rfl) (fun v u hp => ?_)
      obtain ⟨rfl, rfl⟩ := hp
      show ab_T _ _ _ _ 0 0 39 _ (.int _ :: []) _ _
      refine ab_istore (pc2 := 41) (lo2 := [some (va_rf _), some (.int _), some (va_rf _), some (.int _), some (.int _), some (.int _), some (.int _), none]) dX11_bestMove_39 rfl (by decide) rfl ?_
      refine ab_aload_n (x := _) (pc2 := 42) dX11_bestMove_41 rfl rfl ?_
      refine ab_iload (pc2 := 44) dX11_bestMove_42 rfl rfl ?_
      refine ab_aload_n (x := _) (pc2 := 45) dX11_bestMove_44 rfl rfl ?_
      refine ab_getR (pc2 := 48) rfl ht0 fa_X11_10 dX11_bestMove_45 rfl (fun T7 => ?_)
      obtain ⟨q8, hq8, hf⟩ := ab_bind hf
      refine ab_getI (pc2 := 51) hq8 (T7 q8 hq8) fa_X11_94 (by decide) dX11_bestMove_48 rfl ?_
      refine ab_aload_n (x := _) (pc2 := 52) dX11_bestMove_51 rfl rfl ?_
      refine ab_getR (pc2 := 55) rfl ht0 fa_X11_10 dX11_bestMove_52 rfl (fun T9 => ?_)
      obtain ⟨q10, hq10, hf⟩ := ab_bind hf
      refine ab_getI (pc2 := 58) hq10 (T9 q10 hq10) fa_X11_97 (by decide) dX11_bestMove_55 rfl ?_
      obtain ⟨w11, ew11, hf⟩ := ab_bind hf
      refine ab_callV (pc2 := 61) (st := []) rfl ht0 (by decide) (m_X11_playMove (d := (d + 1)) ht0 ew11) mf_X11_playMove tw_269 tw_268 ts_X11_playMove (Or.inl (by decide +kernel)) dX11_bestMove_58 rfl (by omega) (Nat.le_refl _) (Nat.le_refl _) rfl (Nat.le_of_ble_eq_true rfl) (fun v u hp => ?_)
      obtain ⟨rfl, rfl⟩ := hp
      show ab_T _ _ _ _ 0 0 61 _ ([]) _ _
      refine ab_aload_n (x := _) (pc2 := 62) dX11_bestMove_61 rfl rfl ?_
      refine ab_getR (pc2 := 65) rfl ht0 fa_X11_42 dX11_bestMove_62 rfl (fun T12 => ?_)
      refine ab_iload (pc2 := 67) dX11_bestMove_65 rfl rfl ?_
      refine ab_sipush (pc2 := 70) (v := 10000) dX11_bestMove_67 rfl ab_k_sipush_10000 ?_
      refine ab_aload_n (x := _) (pc2 := 71) dX11_bestMove_70 rfl rfl ?_
      refine ab_getR (pc2 := 74) rfl ht0 fa_X11_25 dX11_bestMove_71 rfl (fun T13 => ?_)
      obtain ⟨q14, hq14, hf⟩ := ab_bind hf
      refine ab_getI (pc2 := 77) hq14 (T13 q14 hq14) fa_X11_155 (by decide) dX11_bestMove_74 rfl ?_
      refine ab_imul (pc2 := 78) dX11_bestMove_77 rfl ?_
      refine ab_aload_n (x := _) (pc2 := 79) dX11_bestMove_78 rfl rfl ?_
      refine ab_getR (pc2 := 82) rfl ht0 fa_X11_25 dX11_bestMove_79 rfl (fun T15 => ?_)
      obtain ⟨q16, hq16, hf⟩ := ab_bind hf
      refine ab_getI (pc2 := 85) hq16 (T15 q16 hq16) fa_X11_162 (by decide) dX11_bestMove_82 rfl ?_
      refine ab_iadd (pc2 := 86) dX11_bestMove_85 rfl ?_
      obtain ⟨w17, ew17, hf⟩ := ab_bind hf
      refine ab_callS (pc2 := 89) (st := []) (m_X11_store (d := (d + 5)) T12 ew17) mf_X11_store tw_252 tw_169 dX11_bestMove_86 rfl (by omega) (Nat.le_refl _) (Nat.le_refl _) rfl (Nat.le_of_ble_eq_true rfl) (fun v u hp => ?_)
      obtain ⟨rfl, rfl⟩ := hp
      show ab_T _ _ _ _ 0 0 89 _ ([]) _ _
      refine ab_aload_n (x := _) (pc2 := 90) dX11_bestMove_89 rfl rfl ?_
      refine ab_iload (pc2 := 92) dX11_bestMove_90 rfl rfl ?_
      obtain ⟨w18, ew18, hf⟩ := ab_bind hf
      refine ab_callV (pc2 := 95) (st := []) rfl ht0 (by decide) (m_X11_endedSoBefore (d := (d + 4)) ht0 ew18) mf_X11_endedSoBefore tw_276 tw_275 ts_X11_endedSoBefore (Or.inl (by decide +kernel)) dX11_bestMove_92 rfl (by omega) (Nat.le_refl _) (Nat.le_refl _) rfl (Nat.le_of_ble_eq_true rfl) (fun v u hp => ?_)
      obtain ⟨rfl, rfl, z19⟩ := hp
      show ab_T _ _ _ _ 0 0 95 _ (.int _ :: []) _ _
      refine ab_if_eq (tgt := 101) (pc2 := 98) dX11_bestMove_95 (by decide) rfl hf (fun c20 hf => ?_) (fun c20 hf => ?_)
      · refine ab_aload_n (x := _) (pc2 := 102) dX11_bestMove_101 rfl rfl ?_
        refine ab_iload (pc2 := 104) dX11_bestMove_102 rfl rfl ?_
        refine ab_iload_n (pc2 := 105) dX11_bestMove_104 rfl rfl ?_
        refine ab_aload_n (x := _) (pc2 := 106) dX11_bestMove_105 rfl rfl ?_
        obtain ⟨w21, ew21, hf⟩ := ab_bind hf
        refine ab_callV (pc2 := 109) (st := []) rfl ht0 (by decide) (m_X11_worthOfMove (d := (d + 0)) ht0 T_i2 ew21) mf_X11_worthOfMove tw_274 tw_273 ts_X11_worthOfMove (Or.inl (by decide +kernel)) dX11_bestMove_106 rfl (by omega) (Nat.le_refl _) (Nat.le_refl _) rfl (Nat.le_of_ble_eq_true rfl) (fun v u hp => ?_)
        obtain ⟨rfl, rfl⟩ := hp
        show ab_T _ _ _ _ 0 0 109 _ (.int _ :: []) _ _
        refine ab_istore (pc2 := 111) (lo2 := [some (va_rf _), some (.int _), some (va_rf _), some (.int _), some (.int _), some (.int _), some (.int _), some (.int _)]) dX11_bestMove_109 rfl (by decide) rfl ?_
        refine ab_iload (pc2 := 113) dX11_bestMove_111 rfl rfl ?_
        refine ab_iload (pc2 := 115) dX11_bestMove_113 rfl rfl ?_
        refine ab_icmp_le (tgt := 125) (pc2 := 118) dX11_bestMove_115 (by decide) rfl hf (fun c22 hf => ?_) (fun c22 hf => ?_)
        · refine ab_iinc (pc2 := 128) (v := _ + 1) (lo2 := [some (va_rf _), some (.int _), some (va_rf _), some (.int _), some (.int _), some (.int _), some (.int _), some (.int _)]) dX11_bestMove_125 rfl rfl rfl (by decide) rfl ?_
          refine ab_goto (tgt := 21) dX11_bestMove_128 (by decide) ?_
          exact ab_weak (ih _ _ _ _ _ _ T_i2 hf) (ab_leS (ab_leS (ab_leS (ab_leS (ab_leS (ab_leS (ab_leN (ab_leN ab_le0))))))))
        · refine ab_iload (pc2 := 120) dX11_bestMove_118 rfl rfl ?_
          refine ab_istore_n (pc2 := 121) (lo2 := [some (va_rf _), some (.int _), some (va_rf _), some (.int _), some (.int _), some (.int _), some (.int _), some (.int _)]) dX11_bestMove_120 rfl (by decide) rfl ?_
          refine ab_iload (pc2 := 123) dX11_bestMove_121 rfl rfl ?_
          refine ab_istore (pc2 := 125) (lo2 := [some (va_rf _), some (.int _), some (va_rf _), some (.int _), some (.int _), some (.int _), some (.int _), some (.int _)]) dX11_bestMove_123 rfl (by decide) rfl ?_
          refine ab_iinc (pc2 := 128) (v := _ + 1) (lo2 := [some (va_rf _), some (.int _), some (va_rf _), some (.int _), some (.int _), some (.int _), some (.int _), some (.int _)]) dX11_bestMove_125 rfl rfl rfl (by decide) rfl ?_
          refine ab_goto (tgt := 21) dX11_bestMove_128 (by decide) ?_
          exact ab_weak (ih _ _ _ _ _ _ T_i2 hf) (ab_leS (ab_leS (ab_leS (ab_leS (ab_leS (ab_leS (ab_leN (ab_leN ab_le0))))))))
      · refine ab_goto (tgt := 125) dX11_bestMove_98 (by decide) ?_
        refine ab_iinc (pc2 := 128) (v := _ + 1) (lo2 := [some (va_rf _), some (.int _), some (va_rf _), some (.int _), some (.int _), some (.int _), some (.int _), none]) dX11_bestMove_125 rfl rfl rfl (by decide) rfl ?_
        refine ab_goto (tgt := 21) dX11_bestMove_128 (by decide) ?_
        exact ab_weak (ih _ _ _ _ _ _ T_i2 hf) (ab_leS (ab_leS (ab_leS (ab_leS (ab_leS (ab_leS (ab_leN (ab_leN ab_le0))))))))
set_option maxHeartbeats 4000000 in
set_option maxRecDepth 100000 in
theorem x_X11_bestMove {d : Nat} {t0 : Nat} {i1 : Int32} {i2 : Option Nat} {h : ab_HP} {r : (Int32 × ab_HP)} (ht0 : (ab_shp t0).1 = 0) (T_i2 : ∀ z, i2 = some z → (ab_shp z).1 = 3) (hf : f_X11_bestMove t0 i1 i2 h = some r) : ab_T mX11_bestMove (d + 6) 0 0 0 0 0 [some (va_rf (some t0)), some (.int i1), some (va_rf i2), none, none, none, none, none] [] h (ab_Pi r.1 r.2) := by
  unfold f_X11_bestMove at hf
  refine ab_aload_n (x := _) (pc2 := 1) dX11_bestMove_0 rfl rfl ?_
  refine ab_getR (pc2 := 4) rfl ht0 fa_X11_39 dX11_bestMove_1 rfl (fun T1 => ?_)
  refine ab_iconst (pc2 := 5) (v := 0) dX11_bestMove_4 rfl ab_k_iconst_0 ?_
  obtain ⟨w2, ew2, hf⟩ := ab_bind hf
  refine ab_callS (pc2 := 8) (st := []) (m_X11_at (d := (d + 5)) T1 ew2) mf_X11_at tw_251 tw_23 dX11_bestMove_5 rfl (by omega) (Nat.le_refl _) (Nat.le_refl _) rfl (Nat.le_of_ble_eq_true rfl) (fun v u hp => ?_)
  obtain ⟨rfl, rfl⟩ := hp
  show ab_T _ _ _ _ 0 0 8 _ (.int _ :: []) _ _
  refine ab_istore_n (pc2 := 9) (lo2 := [some (va_rf _), some (.int _), some (va_rf _), some (.int _), none, none, none, none]) dX11_bestMove_8 rfl (by decide) rfl ?_
  refine ab_aload_n (x := _) (pc2 := 10) dX11_bestMove_9 rfl rfl ?_
  refine ab_iload_n (pc2 := 11) dX11_bestMove_10 rfl rfl ?_
  refine ab_iload_n (pc2 := 12) dX11_bestMove_11 rfl rfl ?_
  refine ab_aload_n (x := _) (pc2 := 13) dX11_bestMove_12 rfl rfl ?_
  obtain ⟨w3, ew3, hf⟩ := ab_bind hf
  refine ab_callV (pc2 := 16) (st := []) rfl ht0 (by decide) (m_X11_worthOfMove (d := (d + 0)) ht0 T_i2 ew3) mf_X11_worthOfMove tw_274 tw_273 ts_X11_worthOfMove (Or.inl (by decide +kernel)) dX11_bestMove_13 rfl (by omega) (Nat.le_refl _) (Nat.le_refl _) rfl (Nat.le_of_ble_eq_true rfl) (fun v u hp => ?_)
  obtain ⟨rfl, rfl⟩ := hp
  show ab_T _ _ _ _ 0 0 16 _ (.int _ :: []) _ _
  refine ab_istore (pc2 := 18) (lo2 := [some (va_rf _), some (.int _), some (va_rf _), some (.int _), some (.int _), none, none, none]) dX11_bestMove_16 rfl (by decide) rfl ?_
  refine ab_iconst (pc2 := 19) (v := 0) dX11_bestMove_18 rfl ab_k_iconst_0 ?_
  refine ab_istore (pc2 := 21) (lo2 := [some (va_rf _), some (.int _), some (va_rf _), some (.int _), some (.int _), some (.int _), none, none]) dX11_bestMove_19 rfl (by decide) rfl ?_
  exact ab_weak (x_X11_bestMove_l21 ht0 _ _ _ _ _ _ _ T_i2 hf) (ab_leS (ab_leS (ab_leS (ab_leS (ab_leS (ab_leS (ab_leN (ab_leN ab_le0))))))))
set_option maxHeartbeats 4000000 in
set_option maxRecDepth 100000 in
theorem m_X11_bestMove {d : Nat} {t0 : Nat} {i1 : Int32} {i2 : Option Nat} {h : ab_HP} {r : (Int32 × ab_HP)} (ht0 : (ab_shp t0).1 = 0) (T_i2 : ∀ z, i2 = some z → (ab_shp z).1 = 3) (hf : f_X11_bestMove t0 i1 i2 h = some r) : ab_MET mX11_bestMove (d + 6) 0 0 [va_rf (some t0), .int i1, va_rf i2] h (ab_Pi r.1 r.2) := ab_met (by decide +kernel) (by decide +kernel) (by simp [ab_lo, ab_rf1, Value.category]) (by simp [ab_lo0, ab_lo, ab_rf1, Value.category, List.replicate]) (x_X11_bestMove ht0 T_i2 hf)
set_option maxHeartbeats 4000000 in
set_option maxRecDepth 100000 in
theorem x_X11_plan_b58 {d : Nat} {t0 : Nat} {i1 : Int32} {i3 : Int32} {i4 : Option Nat} {i5 : Int32} {h : ab_HP} {r : (Int32 × ab_HP)} (ht0 : (ab_shp t0).1 = 0) (T_i4 : ∀ z, i4 = some z → (ab_shp z).1 = 3) (hf : f_X11_plan_b58 t0 i1 i3 i4 i5 h = some r) : ab_T mX11_plan (d + 7) 0 0 0 0 58 [some (va_rf (some t0)), some (.int i1), none, some (.int i3), some (va_rf i4), some (.int i5), none] [] h (ab_Pi r.1 r.2) := by
  unfold f_X11_plan_b58 at hf
  refine ab_iload (pc2 := 60) dX11_plan_58 rfl rfl ?_
  refine ab_if_eq (tgt := 69) (pc2 := 63) dX11_plan_60 (by decide) rfl hf (fun c13 hf => ?_) (fun c13 hf => ?_)
  · refine ab_aload_n (x := _) (pc2 := 70) dX11_plan_69 rfl rfl ?_
    obtain ⟨w14, ew14, hf⟩ := ab_bind hf
    refine ab_callV (pc2 := 73) (st := []) rfl ht0 (by decide) (m_X11_listMoves (d := (d + 4)) ht0 ew14) mf_X11_listMoves tw_283 tw_282 ts_X11_listMoves (Or.inl (by decide +kernel)) dX11_plan_70 rfl (by omega) (Nat.le_refl _) (Nat.le_refl _) rfl (Nat.le_of_ble_eq_true rfl) (fun v u hp => ?_)
    obtain ⟨rfl, rfl⟩ := hp
    show ab_T _ _ _ _ 0 0 73 _ ([]) _ _
    refine ab_aload_n (x := _) (pc2 := 74) dX11_plan_73 rfl rfl ?_
    refine ab_iload_n (pc2 := 75) dX11_plan_74 rfl rfl ?_
    refine ab_aload (x := _) (pc2 := 77) dX11_plan_75 rfl rfl ?_
    obtain ⟨w15, ew15, hf⟩ := ab_bind hf
    refine ab_callV (pc2 := 80) (st := []) rfl ht0 (by decide) (m_X11_bestMove (d := (d + 0)) ht0 T_i4 ew15) mf_X11_bestMove tw_285 tw_284 ts_X11_bestMove (Or.inl (by decide +kernel)) dX11_plan_77 rfl (by omega) (Nat.le_refl _) (Nat.le_refl _) rfl (Nat.le_of_ble_eq_true rfl) (fun v u hp => ?_)
    obtain ⟨rfl, rfl⟩ := hp
    show ab_T _ _ _ _ 0 0 80 _ (.int _ :: []) _ _
    refine ab_istore (pc2 := 82) (lo2 := [some (va_rf _), some (.int _), none, some (.int _), some (va_rf _), some (.int _), some (.int _)]) dX11_plan_80 rfl (by decide) rfl ?_
    refine ab_iload_n (pc2 := 83) dX11_plan_82 rfl rfl ?_
    refine ab_iconst (pc2 := 84) (v := 1) dX11_plan_83 rfl ab_k_iconst_1 ?_
    refine ab_icmp_ne (tgt := 92) (pc2 := 87) dX11_plan_84 (by decide) rfl hf (fun c16 hf => ?_) (fun c16 hf => ?_)
    · refine ab_aload_n (x := _) (pc2 := 93) dX11_plan_92 rfl rfl ?_
      refine ab_iload (pc2 := 95) dX11_plan_93 rfl rfl ?_
      refine ab_iload_n (pc2 := 96) dX11_plan_95 rfl rfl ?_
      refine ab_aload (x := _) (pc2 := 98) dX11_plan_96 rfl rfl ?_
      obtain ⟨w17, ew17, hf⟩ := ab_bind hf
      refine ab_callV (pc2 := 101) (st := []) rfl ht0 (by decide) (m_X11_worthOfMove (d := (d + 1)) ht0 T_i4 ew17) mf_X11_worthOfMove tw_274 tw_273 ts_X11_worthOfMove (Or.inl (by decide +kernel)) dX11_plan_98 rfl (by omega) (Nat.le_refl _) (Nat.le_refl _) rfl (Nat.le_of_ble_eq_true rfl) (fun v u hp => ?_)
      obtain ⟨rfl, rfl⟩ := hp
      show ab_T _ _ _ _ 0 0 101 _ (.int _ :: []) _ _
      cases Option.some.inj hf
      exact ab_retI dX11_plan_101 (Or.inl rfl) (Nat.le_refl _) (Nat.le_refl _) ⟨rfl, rfl⟩
    · refine ab_iload (pc2 := 89) dX11_plan_87 rfl rfl ?_
      refine ab_goto (tgt := 101) dX11_plan_89 (by decide) ?_
      cases Option.some.inj hf
      exact ab_retI dX11_plan_101 (Or.inl rfl) (Nat.le_refl _) (Nat.le_refl _) ⟨rfl, rfl⟩
  · refine ab_ldc (pc2 := 65) (v := (-1000000000)) dX11_plan_63 rfl tw_286 ?_
    refine ab_iload (pc2 := 67) dX11_plan_65 rfl rfl ?_
    refine ab_iadd (pc2 := 68) dX11_plan_67 rfl ?_
    cases Option.some.inj hf
    exact ab_retI dX11_plan_68 (Or.inl rfl) (Nat.le_refl _) (Nat.le_refl _) ⟨rfl, rfl⟩
set_option maxHeartbeats 4000000 in
set_option maxRecDepth 100000 in
theorem x_X11_plan {d : Nat} {t0 : Nat} {i1 : Int32} {i2 : Int32} {i3 : Int32} {h : ab_HP} {r : (Int32 × ab_HP)} (ht0 : (ab_shp t0).1 = 0) (hf : f_X11_plan t0 i1 i2 i3 h = some r) : ab_T mX11_plan (d + 7) 0 0 0 0 0 [some (va_rf (some t0)), some (.int i1), some (.int i2), some (.int i3), none, none, none] [] h (ab_Pi r.1 r.2) := by
  unfold f_X11_plan at hf
  refine ab_aload_n (x := _) (pc2 := 1) dX11_plan_0 rfl rfl ?_
  refine ab_iload_n (pc2 := 2) dX11_plan_1 rfl rfl ?_
  obtain ⟨w1, ew1, hf⟩ := ab_bind hf
  refine ab_callV (pc2 := 5) (st := []) rfl ht0 (by decide) (m_X11_shelfAt (d := (d + 6)) ht0 ew1) mf_X11_shelfAt tw_93 tw_92 ts_X11_shelfAt (Or.inl (by decide +kernel)) dX11_plan_2 rfl (by omega) (Nat.le_refl _) (Nat.le_refl _) rfl (Nat.le_of_ble_eq_true rfl) (fun v u hp => ?_)
  obtain ⟨rfl, rfl, T2⟩ := hp
  show ab_T _ _ _ _ 0 0 5 _ (va_rf _ :: []) _ _
  refine ab_astore (pc2 := 7) (lo2 := [some (va_rf _), some (.int _), some (.int _), some (.int _), some (va_rf _), none, none]) dX11_plan_5 rfl (by decide) rfl ?_
  refine ab_aload (x := _) (pc2 := 9) dX11_plan_7 rfl rfl ?_
  refine ab_nul (tgt := 31) (pc2 := 12) dX11_plan_9 (by decide) rfl hf (fun hq3 hf => ?_) (fun q3 hq3 hf => ?_)
  · refine ab_ldc (pc2 := 33) (v := (-1000000001)) dX11_plan_31 rfl tw_277 ?_
    cases Option.some.inj hf
    exact ab_retI dX11_plan_33 (Or.inl rfl) (Nat.le_refl _) (Nat.le_refl _) ⟨rfl, rfl⟩
  · refine ab_iload_n (pc2 := 13) dX11_plan_12 rfl rfl ?_
    refine ab_iconst (pc2 := 14) (v := 1) dX11_plan_13 rfl ab_k_iconst_1 ?_
    refine ab_icmp_lt (tgt := 31) (pc2 := 17) dX11_plan_14 (by decide) rfl hf (fun c4 hf => ?_) (fun c4 hf => ?_)
    · refine ab_ldc (pc2 := 33) (v := (-1000000001)) dX11_plan_31 rfl tw_277 ?_
      cases Option.some.inj hf
      exact ab_retI dX11_plan_33 (Or.inl rfl) (Nat.le_refl _) (Nat.le_refl _) ⟨rfl, rfl⟩
    · refine ab_iload_n (pc2 := 18) dX11_plan_17 rfl rfl ?_
      refine ab_iconst (pc2 := 19) (v := 2) dX11_plan_18 rfl ab_k_iconst_2 ?_
      refine ab_icmp_gt (tgt := 31) (pc2 := 22) dX11_plan_19 (by decide) rfl hf (fun c5 hf => ?_) (fun c5 hf => ?_)
      · refine ab_ldc (pc2 := 33) (v := (-1000000001)) dX11_plan_31 rfl tw_277 ?_
        cases Option.some.inj hf
        exact ab_retI dX11_plan_33 (Or.inl rfl) (Nat.le_refl _) (Nat.le_refl _) ⟨rfl, rfl⟩
      · refine ab_iload_n (pc2 := 23) dX11_plan_22 rfl rfl ?_
        refine ab_if_lt (tgt := 31) (pc2 := 26) dX11_plan_23 (by decide) rfl hf (fun c6 hf => ?_) (fun c6 hf => ?_)
        · refine ab_ldc (pc2 := 33) (v := (-1000000001)) dX11_plan_31 rfl tw_277 ?_
          cases Option.some.inj hf
          exact ab_retI dX11_plan_33 (Or.inl rfl) (Nat.le_refl _) (Nat.le_refl _) ⟨rfl, rfl⟩
        · refine ab_iload_n (pc2 := 27) dX11_plan_26 rfl rfl ?_
          refine ab_iconst (pc2 := 28) (v := 1) dX11_plan_27 rfl ab_k_iconst_1 ?_
          refine ab_icmp_le (tgt := 34) (pc2 := 31) dX11_plan_28 (by decide) rfl hf (fun c7 hf => ?_) (fun c7 hf => ?_)
          · refine ab_aload (x := _) (pc2 := 36) dX11_plan_34 rfl rfl ?_
            obtain ⟨w8, ew8, hf⟩ := ab_bind hf
            refine ab_callV (pc2 := 39) (st := []) hq3 (T2 q3 hq3) (by decide) (m_X6_rowRefusal (d := (d + 5)) (T2 q3 hq3) ew8) mf_X6_rowRefusal tw_279 tw_278 ts_X6_rowRefusal (Or.inl (by decide +kernel)) dX11_plan_36 rfl (by omega) (Nat.le_refl _) (Nat.le_refl _) rfl (Nat.le_of_ble_eq_true rfl) (fun v u hp => ?_)
            obtain ⟨rfl, rfl⟩ := hp
            show ab_T _ _ _ _ 0 0 39 _ (.int _ :: []) _ _
            refine ab_istore (pc2 := 41) (lo2 := [some (va_rf _), some (.int _), some (.int _), some (.int _), some (va_rf _), some (.int _), none]) dX11_plan_39 rfl (by decide) rfl ?_
            refine ab_iload (pc2 := 43) dX11_plan_41 rfl rfl ?_
            refine ab_if_ne (tgt := 58) (pc2 := 46) dX11_plan_43 (by decide) rfl hf (fun c9 hf => ?_) (fun c9 hf => ?_)
            · exact ab_weak (x_X11_plan_b58 ht0 T2 hf) (ab_leS (ab_leS (ab_leN (ab_leS (ab_leS (ab_leS (ab_leN ab_le0)))))))
            · refine ab_aload (x := _) (pc2 := 48) dX11_plan_46 rfl rfl ?_
              obtain ⟨w10, ew10, hf⟩ := ab_bind hf
              refine ab_callS (pc2 := 51) (st := []) (m_X11_areWorths (d := (d + 4)) T2 ew10) mf_X11_areWorths tw_280 tw_281 dX11_plan_48 rfl (by omega) (Nat.le_refl _) (Nat.le_refl _) rfl (Nat.le_of_ble_eq_true rfl) (fun v u hp => ?_)
              obtain ⟨rfl, rfl, z11⟩ := hp
              show ab_T _ _ _ _ 0 0 51 _ (.int _ :: []) _ _
              refine ab_if_ne (tgt := 58) (pc2 := 54) dX11_plan_51 (by decide) rfl hf (fun c12 hf => ?_) (fun c12 hf => ?_)
              · exact ab_weak (x_X11_plan_b58 ht0 T2 hf) (ab_leS (ab_leS (ab_leN (ab_leS (ab_leS (ab_leS (ab_leN ab_le0)))))))
              · refine ab_bipush (pc2 := 56) (v := (-13)) dX11_plan_54 rfl ab_k_bipush_m13 ?_
                refine ab_istore (pc2 := 58) (lo2 := [some (va_rf _), some (.int _), some (.int _), some (.int _), some (va_rf _), some (.int _), none]) dX11_plan_56 rfl (by decide) rfl ?_
                exact ab_weak (x_X11_plan_b58 ht0 T2 hf) (ab_leS (ab_leS (ab_leN (ab_leS (ab_leS (ab_leS (ab_leN ab_le0)))))))
          · refine ab_ldc (pc2 := 33) (v := (-1000000001)) dX11_plan_31 rfl tw_277 ?_
            cases Option.some.inj hf
            exact ab_retI dX11_plan_33 (Or.inl rfl) (Nat.le_refl _) (Nat.le_refl _) ⟨rfl, rfl⟩
set_option maxHeartbeats 4000000 in
set_option maxRecDepth 100000 in
theorem m_X11_plan {d : Nat} {t0 : Nat} {i1 : Int32} {i2 : Int32} {i3 : Int32} {h : ab_HP} {r : (Int32 × ab_HP)} (ht0 : (ab_shp t0).1 = 0) (hf : f_X11_plan t0 i1 i2 i3 h = some r) : ab_MET mX11_plan (d + 7) 0 0 [va_rf (some t0), .int i1, .int i2, .int i3] h (ab_Pi r.1 r.2) := ab_met (by decide +kernel) (by decide +kernel) (Nat.le_of_ble_eq_true rfl) rfl (x_X11_plan ht0 hf)
set_option maxHeartbeats 4000000 in
set_option maxRecDepth 100000 in
theorem x_X11_ever_l18 {d : Nat} {k10 : Int32 → Int32 → ab_HP → Option Int32} {t0 : Nat} {r : Int32} (ht0 : (ab_shp t0).1 = 0) (hk10 : ∀ (i1 : Int32) (i2 : Int32) (h : ab_HP), k10 i1 i2 h = some r → ab_T mX11_ever (d + 1) 0 0 0 0 10 [some (va_rf (some t0)), some (.int i1), some (.int i2), none, none] [] h (ab_Pi r h)) : ∀ (n : Nat) (i1 : Int32) (i2 : Int32) (i3 : Int32) (h : ab_HP), f_X11_ever_l18 k10 t0 n i1 i2 i3 h = some r → ab_T mX11_ever (d + 1) 0 0 0 0 18 [some (va_rf (some t0)), some (.int i1), some (.int i2), some (.int i3), none] [] h (ab_Pi r h) := by
  intro n
  induction n with
  | zero =>
    intro i1 i2 i3 h hf
    rw [f_X11_ever_l18] at hf
    cases hf
  | succ n ih =>
    intro i1 i2 i3 h hf
    rw [f_X11_ever_l18] at hf
    refine ab_iload_n (pc2 := 19) dX11_ever_18 rfl rfl ?_
    refine ab_aload_n (x := _) (pc2 := 20) dX11_ever_19 rfl rfl ?_
    refine ab_getR (pc2 := 23) rfl ht0 fa_X11_10 dX11_ever_20 rfl (fun T4 => ?_)
    obtain ⟨q5, hq5, hf⟩ := ab_bind hf
    refine ab_getI (pc2 := 26) hq5 (T4 q5 hq5) fa_X11_207 (by decide) dX11_ever_23 rfl ?_
    refine ab_icmp_ge (tgt := 67) (pc2 := 29) dX11_ever_26 (by decide) rfl hf (fun c6 hf => ?_) (fun c6 hf => ?_)
    · refine ab_iinc (pc2 := 70) (v := _ + 1) (lo2 := [some (va_rf _), some (.int _), some (.int _), some (.int _), none]) dX11_ever_67 rfl rfl rfl (by decide) rfl ?_
      refine ab_goto (tgt := 10) dX11_ever_70 (by decide) ?_
      exact ab_weak (hk10 _ _ _ hf) (ab_leS (ab_leS (ab_leS (ab_leN (ab_leN ab_le0)))))
    · refine ab_aload_n (x := _) (pc2 := 30) dX11_ever_29 rfl rfl ?_
      refine ab_getR (pc2 := 33) rfl ht0 fa_X11_10 dX11_ever_30 rfl (fun T7 => ?_)
      refine ab_iload_n (pc2 := 34) dX11_ever_33 rfl rfl ?_
      obtain ⟨q8, hq8, hf⟩ := ab_bind hf
      obtain ⟨w9, ew9, hf⟩ := ab_bind hf
      refine ab_callV (pc2 := 37) (st := []) hq8 (T7 q8 hq8) (by decide) (m_X9_deedAt (d := (d + 0)) (T7 q8 hq8) ew9) mf_X9_deedAt tw_127 tw_18 ts_X9_deedAt (Or.inl (by decide +kernel)) dX11_ever_34 rfl (by omega) (Nat.le_refl _) (Nat.le_refl _) rfl (Nat.le_of_ble_eq_true rfl) (fun v u hp => ?_)
      obtain ⟨rfl, rfl, T10⟩ := hp
      show ab_T _ _ _ _ 0 0 37 _ (va_rf _ :: []) _ _
      refine ab_astore (pc2 := 39) (lo2 := [some (va_rf _), some (.int _), some (.int _), some (.int _), some (va_rf _)]) dX11_ever_37 rfl (by decide) rfl ?_
      refine ab_aload (x := _) (pc2 := 41) dX11_ever_39 rfl rfl ?_
      refine ab_nul (tgt := 61) (pc2 := 44) dX11_ever_41 (by decide) rfl hf (fun hq11 hf => ?_) (fun q11 hq11 hf => ?_)
      · refine ab_iinc (pc2 := 64) (v := _ + 1) (lo2 := [some (va_rf _), some (.int _), some (.int _), some (.int _), some (va_rf _)]) dX11_ever_61 rfl rfl rfl (by decide) rfl ?_
        refine ab_goto (tgt := 18) dX11_ever_64 (by decide) ?_
        exact ab_weak (ih _ _ _ _ hf) (ab_leS (ab_leS (ab_leS (ab_leS (ab_leN ab_le0)))))
      · refine ab_aload (x := _) (pc2 := 46) dX11_ever_44 rfl rfl ?_
        refine ab_iload_n (pc2 := 47) dX11_ever_46 rfl rfl ?_
        obtain ⟨w12, ew12, hf⟩ := ab_bind hf
        refine ab_callV (pc2 := 50) (st := []) hq11 (T10 q11 hq11) (by decide) (m_X1_hasGround (d := (d + 0)) (T10 q11 hq11) ew12) mf_X1_hasGround tw_298 tw_146 ts_X1_hasGround (Or.inr tw_147) dX11_ever_47 rfl (by omega) (Nat.le_refl _) (Nat.le_refl _) rfl (Nat.le_of_ble_eq_true rfl) (fun v u hp => ?_)
        obtain ⟨rfl, rfl, z13⟩ := hp
        show ab_T _ _ _ _ 0 0 50 _ (.int _ :: []) _ _
        refine ab_if_eq (tgt := 61) (pc2 := 53) dX11_ever_50 (by decide) rfl hf (fun c14 hf => ?_) (fun c14 hf => ?_)
        · refine ab_iinc (pc2 := 64) (v := _ + 1) (lo2 := [some (va_rf _), some (.int _), some (.int _), some (.int _), some (va_rf _)]) dX11_ever_61 rfl rfl rfl (by decide) rfl ?_
          refine ab_goto (tgt := 18) dX11_ever_64 (by decide) ?_
          exact ab_weak (ih _ _ _ _ hf) (ab_leS (ab_leS (ab_leS (ab_leS (ab_leN ab_le0)))))
        · refine ab_iload_n (pc2 := 54) dX11_ever_53 rfl rfl ?_
          refine ab_aload (x := _) (pc2 := 56) dX11_ever_54 rfl rfl ?_
          refine ab_getI (pc2 := 59) hq11 (T10 q11 hq11) fa_X11_213 (by decide) dX11_ever_56 rfl ?_
          refine ab_ior (pc2 := 60) dX11_ever_59 rfl ?_
          refine ab_istore_n (pc2 := 61) (lo2 := [some (va_rf _), some (.int _), some (.int _), some (.int _), some (va_rf _)]) dX11_ever_60 rfl (by decide) rfl ?_
          refine ab_iinc (pc2 := 64) (v := _ + 1) (lo2 := [some (va_rf _), some (.int _), some (.int _), some (.int _), some (va_rf _)]) dX11_ever_61 rfl rfl rfl (by decide) rfl ?_
          refine ab_goto (tgt := 18) dX11_ever_64 (by decide) ?_
          exact ab_weak (ih _ _ _ _ hf) (ab_leS (ab_leS (ab_leS (ab_leS (ab_leN ab_le0)))))
set_option maxHeartbeats 4000000 in
set_option maxRecDepth 100000 in
theorem x_X11_ever_l10 {d : Nat} {t0 : Nat} {r : Int32} (ht0 : (ab_shp t0).1 = 0) : ∀ (n : Nat) (i1 : Int32) (i2 : Int32) (h : ab_HP), f_X11_ever_l10 t0 n i1 i2 h = some r → ab_T mX11_ever (d + 1) 0 0 0 0 10 [some (va_rf (some t0)), some (.int i1), some (.int i2), none, none] [] h (ab_Pi r h) := by
  intro n
  induction n with
  | zero =>
    intro i1 i2 h hf
    rw [f_X11_ever_l10] at hf
    cases hf
  | succ n ih =>
    intro i1 i2 h hf
    rw [f_X11_ever_l10] at hf
    refine ab_iload_n (pc2 := 11) dX11_ever_10 rfl rfl ?_
    refine ab_bipush (pc2 := 13) (v := 10) dX11_ever_11 rfl ab_k_bipush_10 ?_
    refine ab_icmp_ge (tgt := 73) (pc2 := 16) dX11_ever_13 (by decide) rfl hf (fun c3 hf => ?_) (fun c3 hf => ?_)
    · refine ab_iload_n (pc2 := 74) dX11_ever_73 rfl rfl ?_
      cases Option.some.inj hf
      exact ab_retI dX11_ever_74 (Or.inl rfl) (Nat.le_refl _) (Nat.le_refl _) ⟨rfl, rfl⟩
    · refine ab_iconst (pc2 := 17) (v := 0) dX11_ever_16 rfl ab_k_iconst_0 ?_
      refine ab_istore_n (pc2 := 18) (lo2 := [some (va_rf _), some (.int _), some (.int _), some (.int _), none]) dX11_ever_17 rfl (by decide) rfl ?_
      exact ab_weak (x_X11_ever_l18 ht0 ih _ _ _ _ _ hf) (ab_leS (ab_leS (ab_leS (ab_leS (ab_leN ab_le0)))))
set_option maxHeartbeats 4000000 in
set_option maxRecDepth 100000 in
theorem x_X11_ever {d : Nat} {t0 : Nat} {h : ab_HP} {r : Int32} (ht0 : (ab_shp t0).1 = 0) (hf : f_X11_ever t0 h = some r) : ab_T mX11_ever (d + 1) 0 0 0 0 0 [some (va_rf (some t0)), none, none, none, none] [] h (ab_Pi r h) := by
  unfold f_X11_ever at hf
  refine ab_aload_n (x := _) (pc2 := 1) dX11_ever_0 rfl rfl ?_
  refine ab_getR (pc2 := 4) rfl ht0 fa_X11_10 dX11_ever_1 rfl (fun T1 => ?_)
  obtain ⟨q2, hq2, hf⟩ := ab_bind hf
  refine ab_getI (pc2 := 7) hq2 (T1 q2 hq2) fa_X11_94 (by decide) dX11_ever_4 rfl ?_
  refine ab_istore_n (pc2 := 8) (lo2 := [some (va_rf _), some (.int _), none, none, none]) dX11_ever_7 rfl (by decide) rfl ?_
  refine ab_iconst (pc2 := 9) (v := 0) dX11_ever_8 rfl ab_k_iconst_0 ?_
  refine ab_istore_n (pc2 := 10) (lo2 := [some (va_rf _), some (.int _), some (.int _), none, none]) dX11_ever_9 rfl (by decide) rfl ?_
  exact ab_weak (x_X11_ever_l10 ht0 _ _ _ _ hf) (ab_leS (ab_leS (ab_leS (ab_leN (ab_leN ab_le0)))))
set_option maxHeartbeats 4000000 in
set_option maxRecDepth 100000 in
theorem m_X11_ever {d : Nat} {t0 : Nat} {h : ab_HP} {r : Int32} (ht0 : (ab_shp t0).1 = 0) (hf : f_X11_ever t0 h = some r) : ab_MET mX11_ever (d + 1) 0 0 [va_rf (some t0)] h (ab_Pi r h) := ab_met (by decide +kernel) (by decide +kernel) (Nat.le_of_ble_eq_true rfl) rfl (x_X11_ever ht0 hf)
set_option maxHeartbeats 4000000 in
set_option maxRecDepth 100000 in
theorem x_X11_help_l4 {d : Nat} {t0 : Nat} {r : Int32} (ht0 : (ab_shp t0).1 = 0) : ∀ (n : Nat) (i1 : Int32) (i2 : Int32) (h : ab_HP), f_X11_help_l4 t0 n i1 i2 h = some r → ab_T mX11_help (d + 2) 0 0 0 0 4 [some (va_rf (some t0)), some (.int i1), some (.int i2), none] [] h (ab_Pi r h) := by
  intro n
  induction n with
  | zero =>
    intro i1 i2 h hf
    rw [f_X11_help_l4] at hf
    cases hf
  | succ n ih =>
    intro i1 i2 h hf
    rw [f_X11_help_l4] at hf
    refine ab_iload_n (pc2 := 5) dX11_help_4 rfl rfl ?_
    refine ab_aload_n (x := _) (pc2 := 6) dX11_help_5 rfl rfl ?_
    refine ab_getR (pc2 := 9) rfl ht0 fa_X11_10 dX11_help_6 rfl (fun T1 => ?_)
    obtain ⟨q2, hq2, hf⟩ := ab_bind hf
    refine ab_getI (pc2 := 12) hq2 (T1 q2 hq2) fa_X11_207 (by decide) dX11_help_9 rfl ?_
    refine ab_icmp_ge (tgt := 70) (pc2 := 15) dX11_help_12 (by decide) rfl hf (fun c3 hf => ?_) (fun c3 hf => ?_)
    · refine ab_iload_n (pc2 := 71) dX11_help_70 rfl rfl ?_
      cases Option.some.inj hf
      exact ab_retI dX11_help_71 (Or.inl rfl) (Nat.le_refl _) (Nat.le_refl _) ⟨rfl, rfl⟩
    · refine ab_aload_n (x := _) (pc2 := 16) dX11_help_15 rfl rfl ?_
      refine ab_getR (pc2 := 19) rfl ht0 fa_X11_10 dX11_help_16 rfl (fun T4 => ?_)
      refine ab_iload_n (pc2 := 20) dX11_help_19 rfl rfl ?_
      obtain ⟨q5, hq5, hf⟩ := ab_bind hf
      obtain ⟨w6, ew6, hf⟩ := ab_bind hf
      refine ab_callV (pc2 := 23) (st := []) hq5 (T4 q5 hq5) (by decide) (m_X9_deedAt (d := (d + 1)) (T4 q5 hq5) ew6) mf_X9_deedAt tw_127 tw_18 ts_X9_deedAt (Or.inl (by decide +kernel)) dX11_help_20 rfl (by omega) (Nat.le_refl _) (Nat.le_refl _) rfl (Nat.le_of_ble_eq_true rfl) (fun v u hp => ?_)
      obtain ⟨rfl, rfl, T7⟩ := hp
      show ab_T _ _ _ _ 0 0 23 _ (va_rf _ :: []) _ _
      refine ab_astore_n (pc2 := 24) (lo2 := [some (va_rf _), some (.int _), some (.int _), some (va_rf _)]) dX11_help_23 rfl (by decide) rfl ?_
      refine ab_aload_n (x := _) (pc2 := 25) dX11_help_24 rfl rfl ?_
      refine ab_nul (tgt := 64) (pc2 := 28) dX11_help_25 (by decide) rfl hf (fun hq8 hf => ?_) (fun q8 hq8 hf => ?_)
      · refine ab_iinc (pc2 := 67) (v := _ + 1) (lo2 := [some (va_rf _), some (.int _), some (.int _), some (va_rf _)]) dX11_help_64 rfl rfl rfl (by decide) rfl ?_
        refine ab_goto (tgt := 4) dX11_help_67 (by decide) ?_
        exact ab_weak (ih _ _ _ hf) (ab_leS (ab_leS (ab_leS (ab_leN ab_le0))))
      · refine ab_aload_n (x := _) (pc2 := 29) dX11_help_28 rfl rfl ?_
        refine ab_aload_n (x := _) (pc2 := 30) dX11_help_29 rfl rfl ?_
        refine ab_getR (pc2 := 33) rfl ht0 fa_X11_10 dX11_help_30 rfl (fun T9 => ?_)
        obtain ⟨q10, hq10, hf⟩ := ab_bind hf
        refine ab_getI (pc2 := 36) hq10 (T9 q10 hq10) fa_X11_94 (by decide) dX11_help_33 rfl ?_
        refine ab_aload_n (x := _) (pc2 := 37) dX11_help_36 rfl rfl ?_
        refine ab_getR (pc2 := 40) rfl ht0 fa_X11_10 dX11_help_37 rfl (fun T11 => ?_)
        obtain ⟨q12, hq12, hf⟩ := ab_bind hf
        refine ab_getI (pc2 := 43) hq12 (T11 q12 hq12) fa_X11_97 (by decide) dX11_help_40 rfl ?_
        obtain ⟨w13, ew13, hf⟩ := ab_bind hf
        refine ab_callV (pc2 := 46) (st := []) hq8 (T7 q8 hq8) (by decide) (m_X1_mayBeDone (d := (d + 0)) (T7 q8 hq8) ew13) mf_X1_mayBeDone tw_151 tw_149 ts_X1_mayBeDone (Or.inr tw_150) dX11_help_43 rfl (by omega) (Nat.le_refl _) (Nat.le_refl _) rfl (Nat.le_of_ble_eq_true rfl) (fun v u hp => ?_)
        obtain ⟨rfl, rfl, z14⟩ := hp
        show ab_T _ _ _ _ 0 0 46 _ (.int _ :: []) _ _
        refine ab_if_eq (tgt := 64) (pc2 := 49) dX11_help_46 (by decide) rfl hf (fun c15 hf => ?_) (fun c15 hf => ?_)
        · refine ab_iinc (pc2 := 67) (v := _ + 1) (lo2 := [some (va_rf _), some (.int _), some (.int _), some (va_rf _)]) dX11_help_64 rfl rfl rfl (by decide) rfl ?_
          refine ab_goto (tgt := 4) dX11_help_67 (by decide) ?_
          exact ab_weak (ih _ _ _ hf) (ab_leS (ab_leS (ab_leS (ab_leN ab_le0))))
        · refine ab_iload_n (pc2 := 50) dX11_help_49 rfl rfl ?_
          refine ab_aload_n (x := _) (pc2 := 51) dX11_help_50 rfl rfl ?_
          refine ab_getR (pc2 := 54) rfl ht0 fa_X11_10 dX11_help_51 rfl (fun T16 => ?_)
          obtain ⟨q17, hq17, hf⟩ := ab_bind hf
          refine ab_getI (pc2 := 57) hq17 (T16 q17 hq17) fa_X11_94 (by decide) dX11_help_54 rfl ?_
          refine ab_aload_n (x := _) (pc2 := 58) dX11_help_57 rfl rfl ?_
          refine ab_getI (pc2 := 61) hq8 (T7 q8 hq8) fa_X11_216 (by decide) dX11_help_58 rfl ?_
          refine ab_iand (pc2 := 62) dX11_help_61 rfl ?_
          refine ab_ior (pc2 := 63) dX11_help_62 rfl ?_
          have hf := ab_let_e hf
          refine ab_istore_n (pc2 := 64) (lo2 := [some (va_rf _), some (.int _), some (.int _), some (va_rf _)]) dX11_help_63 rfl (by decide) rfl ?_
          refine ab_iinc (pc2 := 67) (v := _ + 1) (lo2 := [some (va_rf _), some (.int _), some (.int _), some (va_rf _)]) dX11_help_64 rfl rfl rfl (by decide) rfl ?_
          refine ab_goto (tgt := 4) dX11_help_67 (by decide) ?_
          exact ab_weak (ih _ _ _ hf) (ab_leS (ab_leS (ab_leS (ab_leN ab_le0))))
set_option maxHeartbeats 4000000 in
set_option maxRecDepth 100000 in
theorem x_X11_help {d : Nat} {t0 : Nat} {h : ab_HP} {r : Int32} (ht0 : (ab_shp t0).1 = 0) (hf : f_X11_help t0 h = some r) : ab_T mX11_help (d + 2) 0 0 0 0 0 [some (va_rf (some t0)), none, none, none] [] h (ab_Pi r h) := by
  unfold f_X11_help at hf
  refine ab_iconst (pc2 := 1) (v := 0) dX11_help_0 rfl ab_k_iconst_0 ?_
  refine ab_istore_n (pc2 := 2) (lo2 := [some (va_rf _), some (.int _), none, none]) dX11_help_1 rfl (by decide) rfl ?_
  refine ab_iconst (pc2 := 3) (v := 0) dX11_help_2 rfl ab_k_iconst_0 ?_
  refine ab_istore_n (pc2 := 4) (lo2 := [some (va_rf _), some (.int _), some (.int _), none]) dX11_help_3 rfl (by decide) rfl ?_
  exact ab_weak (x_X11_help_l4 ht0 _ _ _ _ hf) (ab_leS (ab_leS (ab_leS (ab_leN ab_le0))))
set_option maxHeartbeats 4000000 in
set_option maxRecDepth 100000 in
theorem m_X11_help {d : Nat} {t0 : Nat} {h : ab_HP} {r : Int32} (ht0 : (ab_shp t0).1 = 0) (hf : f_X11_help t0 h = some r) : ab_MET mX11_help (d + 2) 0 0 [va_rf (some t0)] h (ab_Pi r h) := ab_met (by decide +kernel) (by decide +kernel) (Nat.le_of_ble_eq_true rfl) rfl (x_X11_help ht0 hf)
set_option maxHeartbeats 4000000 in
set_option maxRecDepth 100000 in
theorem x_X11_playTwo_b89 {d : Nat} {k20 : Option Nat → Option Nat → Int32 → Int32 → Int32 → Int32 → Int32 → ab_HP → Option (Int32 × ab_HP)} {t0 : Nat} {i1 : Option Nat} {i2 : Option Nat} {i3 : Int32} {i4 : Int32} {i5 : Int32} {i6 : Int32} {i7 : Int32} {h : ab_HP} {r : (Int32 × ab_HP)} (ht0 : (ab_shp t0).1 = 0) (hk20 : ∀ (i1 : Option Nat) (i2 : Option Nat) (i3 : Int32) (i4 : Int32) (i5 : Int32) (i6 : Int32) (i7 : Int32) (h : ab_HP), (∀ z, i1 = some z → (ab_shp z).1 = 3) → (∀ z, i2 = some z → (ab_shp z).1 = 3) → k20 i1 i2 i3 i4 i5 i6 i7 h = some r → ab_T mX11_playTwo (d + 5) 0 0 0 0 20 [some (va_rf (some t0)), some (va_rf i1), some (va_rf i2), some (.int i3), some (.int i4), some (.int i5), some (.int i6), some (.int i7)] [] h (ab_Pi r.1 r.2)) (T_i1 : ∀ z, i1 = some z → (ab_shp z).1 = 3) (T_i2 : ∀ z, i2 = some z → (ab_shp z).1 = 3) (hf : f_X11_playTwo_b89 k20 t0 i1 i2 i3 i4 i5 i6 i7 h = some r) : ab_T mX11_playTwo (d + 5) 0 0 0 0 89 [some (va_rf (some t0)), some (va_rf i1), some (va_rf i2), some (.int i3), some (.int i4), some (.int i5), some (.int i6), some (.int i7)] [] h (ab_Pi r.1 r.2) := by
  unfold f_X11_playTwo_b89 at hf
  refine ab_iload (pc2 := 91) dX11_playTwo_89 rfl rfl ?_
  refine ab_aload_n (x := _) (pc2 := 92) dX11_playTwo_91 rfl rfl ?_
  obtain ⟨q25, hq25, hf⟩ := ab_bind hf
  refine ab_getI (pc2 := 95) hq25 (T_i2 q25 hq25) fa_X11_182 (by decide) dX11_playTwo_92 rfl ?_
  refine ab_icmp_ge (tgt := 138) (pc2 := 98) dX11_playTwo_95 (by decide) rfl hf (fun c26 hf => ?_) (fun c26 hf => ?_)
  · refine ab_iinc (pc2 := 141) (v := _ + 1) (lo2 := [some (va_rf _), some (va_rf _), some (va_rf _), some (.int _), some (.int _), some (.int _), some (.int _), some (.int _)]) dX11_playTwo_138 rfl rfl rfl (by decide) rfl ?_
    refine ab_goto (tgt := 20) dX11_playTwo_141 (by decide) ?_
    exact ab_weak (hk20 _ _ _ _ _ _ _ _ T_i1 T_i2 hf) (ab_leS (ab_leS (ab_leS (ab_leS (ab_leS (ab_leS (ab_leS (ab_leS ab_le0))))))))
  · refine ab_iload (pc2 := 100) dX11_playTwo_98 rfl rfl ?_
    refine ab_iload (pc2 := 102) dX11_playTwo_100 rfl rfl ?_
    refine ab_iload (pc2 := 104) dX11_playTwo_102 rfl rfl ?_
    refine ab_ishr (pc2 := 105) dX11_playTwo_104 rfl ?_
    refine ab_iconst (pc2 := 106) (v := 1) dX11_playTwo_105 rfl ab_k_iconst_1 ?_
    refine ab_iand (pc2 := 107) dX11_playTwo_106 rfl ?_
    refine ab_aload_n (x := _) (pc2 := 108) dX11_playTwo_107 rfl rfl ?_
    refine ab_getR (pc2 := 111) rfl ht0 fa_X11_25 dX11_playTwo_108 rfl (fun T27 => ?_)
    obtain ⟨q28, hq28, hf⟩ := ab_bind hf
    refine ab_getI (pc2 := 114) hq28 (T27 q28 hq28) fa_X11_156 (by decide) dX11_playTwo_111 rfl ?_
    refine ab_ishl (pc2 := 115) dX11_playTwo_114 rfl ?_
    refine ab_ior (pc2 := 116) dX11_playTwo_115 rfl ?_
    have hf := ab_let_e hf
    refine ab_istore (pc2 := 118) (lo2 := [some (va_rf _), some (va_rf _), some (va_rf _), some (.int _), some (.int _), some (.int _), some (.int _), some (.int _)]) dX11_playTwo_116 rfl (by decide) rfl ?_
    refine ab_aload_n (x := _) (pc2 := 119) dX11_playTwo_118 rfl rfl ?_
    refine ab_getR (pc2 := 122) rfl ht0 fa_X11_25 dX11_playTwo_119 rfl (fun T30 => ?_)
    refine ab_aload_n (x := _) (pc2 := 123) dX11_playTwo_122 rfl rfl ?_
    refine ab_getR (pc2 := 126) rfl ht0 fa_X11_10 dX11_playTwo_123 rfl (fun T31 => ?_)
    refine ab_aload_n (x := _) (pc2 := 127) dX11_playTwo_126 rfl rfl ?_
    refine ab_iload (pc2 := 129) dX11_playTwo_127 rfl rfl ?_
    obtain ⟨w32, ew32, hf⟩ := ab_bind hf
    refine ab_callV (pc2 := 132) (st := [_, _]) hq25 (T_i2 q25 hq25) (by decide) (m_X6_read (d := (d + 3)) (T_i2 q25 hq25) ew32) mf_X6_read tw_154 tw_24 ts_X6_read (Or.inl (by decide +kernel)) dX11_playTwo_129 rfl (by omega) (Nat.le_refl _) (Nat.le_refl _) rfl (Nat.le_of_ble_eq_true rfl) (fun v u hp => ?_)
    obtain ⟨rfl, rfl⟩ := hp
    show ab_T _ _ _ _ 0 0 132 _ (.int _ :: [_, _]) _ _
    obtain ⟨q33, hq33, hf⟩ := ab_bind hf
    obtain ⟨w34, ew34, hf⟩ := ab_bind hf
    refine ab_callV (pc2 := 135) (st := [_]) hq33 (T31 q33 hq33) (by decide) (m_X9_deedAt (d := (d + 4)) (T31 q33 hq33) ew34) mf_X9_deedAt tw_127 tw_18 ts_X9_deedAt (Or.inl (by decide +kernel)) dX11_playTwo_132 rfl (by omega) (Nat.le_refl _) (Nat.le_refl _) rfl (Nat.le_of_ble_eq_true rfl) (fun v u hp => ?_)
    obtain ⟨rfl, rfl, T35⟩ := hp
    show ab_T _ _ _ _ 0 0 135 _ (va_rf _ :: [_]) _ _
    obtain ⟨q36, hq36, hf⟩ := ab_bind hf
    obtain ⟨w37, ew37, hf⟩ := ab_bind hf
    refine ab_callV (pc2 := 138) (st := []) hq36 (T30 q36 hq36) (by decide) (m_X10_add (d := (d + 4)) (T30 q36 hq36) T35 ew37) mf_X10_add tw_160 tw_159 ts_X10_add (Or.inl (by decide +kernel)) dX11_playTwo_135 rfl (by omega) (Nat.le_refl _) (Nat.le_refl _) rfl (Nat.le_of_ble_eq_true rfl) (fun v u hp => ?_)
    obtain ⟨rfl, rfl⟩ := hp
    show ab_T _ _ _ _ 0 0 138 _ ([]) _ _
    refine ab_iinc (pc2 := 141) (v := _ + 1) (lo2 := [some (va_rf _), some (va_rf _), some (va_rf _), some (.int _), some (.int _), some (.int _), some (.int _), some (.int _)]) dX11_playTwo_138 rfl rfl rfl (by decide) rfl ?_
    refine ab_goto (tgt := 20) dX11_playTwo_141 (by decide) ?_
    exact ab_weak (hk20 _ _ _ _ _ _ _ _ T_i1 T_i2 hf) (ab_leS (ab_leS (ab_leS (ab_leS (ab_leS (ab_leS (ab_leS (ab_leS ab_le0))))))))
set_option maxHeartbeats 4000000 in
set_option maxRecDepth 100000 in
theorem x_X11_playTwo_l20 {d : Nat} {t0 : Nat} {r : (Int32 × ab_HP)} (ht0 : (ab_shp t0).1 = 0) : ∀ (n : Nat) (i1 : Option Nat) (i2 : Option Nat) (i3 : Int32) (i4 : Int32) (i5 : Int32) (i6 : Int32) (i7 : Int32) (h : ab_HP), (∀ z, i1 = some z → (ab_shp z).1 = 3) → (∀ z, i2 = some z → (ab_shp z).1 = 3) → f_X11_playTwo_l20 t0 n i1 i2 i3 i4 i5 i6 i7 h = some r → ab_T mX11_playTwo (d + 5) 0 0 0 0 20 [some (va_rf (some t0)), some (va_rf i1), some (va_rf i2), some (.int i3), some (.int i4), some (.int i5), some (.int i6), some (.int i7)] [] h (ab_Pi r.1 r.2) := by
  intro n
  induction n with
  | zero =>
    intro i1 i2 i3 i4 i5 i6 i7 h T_i1 T_i2 hf
    rw [f_X11_playTwo_l20] at hf
    cases hf
  | succ n ih =>
    intro i1 i2 i3 i4 i5 i6 i7 h T_i1 T_i2 hf
    rw [f_X11_playTwo_l20] at hf
    refine ab_iload (pc2 := 22) dX11_playTwo_20 rfl rfl ?_
    refine ab_bipush (pc2 := 24) (v := 8) dX11_playTwo_22 rfl ab_k_bipush_8 ?_
    refine ab_icmp_ge (tgt := 144) (pc2 := 27) dX11_playTwo_24 (by decide) rfl hf (fun c5 hf => ?_) (fun c5 hf => ?_)
    · refine ab_aload_n (x := _) (pc2 := 145) dX11_playTwo_144 rfl rfl ?_
      refine ab_getR (pc2 := 148) rfl ht0 fa_X11_25 dX11_playTwo_145 rfl (fun T6 => ?_)
      refine ab_iload (pc2 := 150) dX11_playTwo_148 rfl rfl ?_
      obtain ⟨q7, hq7, hf⟩ := ab_bind hf
      obtain ⟨w8, ew8, hf⟩ := ab_bind hf
      refine ab_callV (pc2 := 153) (st := []) hq7 (T6 q7 hq7) (by decide) (m_X10_play (d := (d + 0)) (T6 q7 hq7) ew8) mf_X10_play tw_195 tw_194 ts_X10_play (Or.inl (by decide +kernel)) dX11_playTwo_150 rfl (by omega) (Nat.le_refl _) (Nat.le_refl _) rfl (Nat.le_of_ble_eq_true rfl) (fun v u hp => ?_)
      obtain ⟨rfl, rfl⟩ := hp
      show ab_T _ _ _ _ 0 0 153 _ ([]) _ _
      refine ab_iload (pc2 := 155) dX11_playTwo_153 rfl rfl ?_
      cases Option.some.inj hf
      exact ab_retI dX11_playTwo_155 (Or.inl rfl) (Nat.le_refl _) (Nat.le_refl _) ⟨rfl, rfl⟩
    · refine ab_iload (pc2 := 29) dX11_playTwo_27 rfl rfl ?_
      refine ab_aload_n (x := _) (pc2 := 30) dX11_playTwo_29 rfl rfl ?_
      obtain ⟨q9, hq9, hf⟩ := ab_bind hf
      refine ab_getI (pc2 := 33) hq9 (T_i1 q9 hq9) fa_X11_182 (by decide) dX11_playTwo_30 rfl ?_
      refine ab_icmp_ge (tgt := 89) (pc2 := 36) dX11_playTwo_33 (by decide) rfl hf (fun c10 hf => ?_) (fun c10 hf => ?_)
      · exact ab_weak (x_X11_playTwo_b89 ht0 ih T_i1 T_i2 hf) (ab_leS (ab_leS (ab_leS (ab_leS (ab_leS (ab_leS (ab_leS (ab_leS ab_le0))))))))
      · refine ab_iload (pc2 := 38) dX11_playTwo_36 rfl rfl ?_
        refine ab_iconst (pc2 := 39) (v := 1) dX11_playTwo_38 rfl ab_k_iconst_1 ?_
        refine ab_aload_n (x := _) (pc2 := 40) dX11_playTwo_39 rfl rfl ?_
        refine ab_getR (pc2 := 43) rfl ht0 fa_X11_25 dX11_playTwo_40 rfl (fun T11 => ?_)
        obtain ⟨q12, hq12, hf⟩ := ab_bind hf
        refine ab_getI (pc2 := 46) hq12 (T11 q12 hq12) fa_X11_156 (by decide) dX11_playTwo_43 rfl ?_
        refine ab_ishl (pc2 := 47) dX11_playTwo_46 rfl ?_
        refine ab_ior (pc2 := 48) dX11_playTwo_47 rfl ?_
        have hf := ab_let_e hf
        refine ab_istore (pc2 := 50) (lo2 := [some (va_rf _), some (va_rf _), some (va_rf _), some (.int _), some (.int _), some (.int _), some (.int _), some (.int _)]) dX11_playTwo_48 rfl (by decide) rfl ?_
        refine ab_iload (pc2 := 52) dX11_playTwo_50 rfl rfl ?_
        refine ab_iload_n (pc2 := 53) dX11_playTwo_52 rfl rfl ?_
        refine ab_iload (pc2 := 55) dX11_playTwo_53 rfl rfl ?_
        refine ab_ishr (pc2 := 56) dX11_playTwo_55 rfl ?_
        refine ab_iconst (pc2 := 57) (v := 1) dX11_playTwo_56 rfl ab_k_iconst_1 ?_
        refine ab_iand (pc2 := 58) dX11_playTwo_57 rfl ?_
        refine ab_aload_n (x := _) (pc2 := 59) dX11_playTwo_58 rfl rfl ?_
        refine ab_getR (pc2 := 62) rfl ht0 fa_X11_25 dX11_playTwo_59 rfl (fun T14 => ?_)
        obtain ⟨q15, hq15, hf⟩ := ab_bind hf
        refine ab_getI (pc2 := 65) hq15 (T14 q15 hq15) fa_X11_156 (by decide) dX11_playTwo_62 rfl ?_
        refine ab_ishl (pc2 := 66) dX11_playTwo_65 rfl ?_
        refine ab_ior (pc2 := 67) dX11_playTwo_66 rfl ?_
        have hf := ab_let_e hf
        refine ab_istore (pc2 := 69) (lo2 := [some (va_rf _), some (va_rf _), some (va_rf _), some (.int _), some (.int _), some (.int _), some (.int _), some (.int _)]) dX11_playTwo_67 rfl (by decide) rfl ?_
        refine ab_aload_n (x := _) (pc2 := 70) dX11_playTwo_69 rfl rfl ?_
        refine ab_getR (pc2 := 73) rfl ht0 fa_X11_25 dX11_playTwo_70 rfl (fun T17 => ?_)
        refine ab_aload_n (x := _) (pc2 := 74) dX11_playTwo_73 rfl rfl ?_
        refine ab_getR (pc2 := 77) rfl ht0 fa_X11_10 dX11_playTwo_74 rfl (fun T18 => ?_)
        refine ab_aload_n (x := _) (pc2 := 78) dX11_playTwo_77 rfl rfl ?_
        refine ab_iload (pc2 := 80) dX11_playTwo_78 rfl rfl ?_
        obtain ⟨w19, ew19, hf⟩ := ab_bind hf
        refine ab_callV (pc2 := 83) (st := [_, _]) hq9 (T_i1 q9 hq9) (by decide) (m_X6_read (d := (d + 3)) (T_i1 q9 hq9) ew19) mf_X6_read tw_154 tw_24 ts_X6_read (Or.inl (by decide +kernel)) dX11_playTwo_80 rfl (by omega) (Nat.le_refl _) (Nat.le_refl _) rfl (Nat.le_of_ble_eq_true rfl) (fun v u hp => ?_)
        obtain ⟨rfl, rfl⟩ := hp
        show ab_T _ _ _ _ 0 0 83 _ (.int _ :: [_, _]) _ _
        obtain ⟨q20, hq20, hf⟩ := ab_bind hf
        obtain ⟨w21, ew21, hf⟩ := ab_bind hf
        refine ab_callV (pc2 := 86) (st := [_]) hq20 (T18 q20 hq20) (by decide) (m_X9_deedAt (d := (d + 4)) (T18 q20 hq20) ew21) mf_X9_deedAt tw_127 tw_18 ts_X9_deedAt (Or.inl (by decide +kernel)) dX11_playTwo_83 rfl (by omega) (Nat.le_refl _) (Nat.le_refl _) rfl (Nat.le_of_ble_eq_true rfl) (fun v u hp => ?_)
        obtain ⟨rfl, rfl, T22⟩ := hp
        show ab_T _ _ _ _ 0 0 86 _ (va_rf _ :: [_]) _ _
        obtain ⟨q23, hq23, hf⟩ := ab_bind hf
        obtain ⟨w24, ew24, hf⟩ := ab_bind hf
        refine ab_callV (pc2 := 89) (st := []) hq23 (T17 q23 hq23) (by decide) (m_X10_add (d := (d + 4)) (T17 q23 hq23) T22 ew24) mf_X10_add tw_160 tw_159 ts_X10_add (Or.inl (by decide +kernel)) dX11_playTwo_86 rfl (by omega) (Nat.le_refl _) (Nat.le_refl _) rfl (Nat.le_of_ble_eq_true rfl) (fun v u hp => ?_)
        obtain ⟨rfl, rfl⟩ := hp
        show ab_T _ _ _ _ 0 0 89 _ ([]) _ _
        exact ab_weak (x_X11_playTwo_b89 ht0 ih T_i1 T_i2 hf) (ab_leS (ab_leS (ab_leS (ab_leS (ab_leS (ab_leS (ab_leS (ab_leS ab_le0))))))))
set_option maxHeartbeats 4000000 in
set_option maxRecDepth 100000 in
theorem x_X11_playTwo {d : Nat} {t0 : Nat} {i1 : Option Nat} {i2 : Option Nat} {i3 : Int32} {i4 : Int32} {h : ab_HP} {r : (Int32 × ab_HP)} (ht0 : (ab_shp t0).1 = 0) (T_i1 : ∀ z, i1 = some z → (ab_shp z).1 = 3) (T_i2 : ∀ z, i2 = some z → (ab_shp z).1 = 3) (hf : f_X11_playTwo t0 i1 i2 i3 i4 h = some r) : ab_T mX11_playTwo (d + 5) 0 0 0 0 0 [some (va_rf (some t0)), some (va_rf i1), some (va_rf i2), some (.int i3), some (.int i4), none, none, none] [] h (ab_Pi r.1 r.2) := by
  unfold f_X11_playTwo at hf
  refine ab_iconst (pc2 := 1) (v := 0) dX11_playTwo_0 rfl ab_k_iconst_0 ?_
  refine ab_istore (pc2 := 3) (lo2 := [some (va_rf _), some (va_rf _), some (va_rf _), some (.int _), some (.int _), some (.int _), none, none]) dX11_playTwo_1 rfl (by decide) rfl ?_
  refine ab_iconst (pc2 := 4) (v := 0) dX11_playTwo_3 rfl ab_k_iconst_0 ?_
  refine ab_istore (pc2 := 6) (lo2 := [some (va_rf _), some (va_rf _), some (va_rf _), some (.int _), some (.int _), some (.int _), some (.int _), none]) dX11_playTwo_4 rfl (by decide) rfl ?_
  refine ab_aload_n (x := _) (pc2 := 7) dX11_playTwo_6 rfl rfl ?_
  refine ab_getR (pc2 := 10) rfl ht0 fa_X11_25 dX11_playTwo_7 rfl (fun T1 => ?_)
  refine ab_aload_n (x := _) (pc2 := 11) dX11_playTwo_10 rfl rfl ?_
  refine ab_getR (pc2 := 14) rfl ht0 fa_X11_10 dX11_playTwo_11 rfl (fun T2 => ?_)
  obtain ⟨q3, hq3, hf⟩ := ab_bind hf
  obtain ⟨w4, ew4, hf⟩ := ab_bind hf
  refine ab_callV (pc2 := 17) (st := []) hq3 (T1 q3 hq3) (by decide) (m_X10_open (d := (d + 4)) (T1 q3 hq3) T2 ew4) mf_X10_open tw_158 tw_157 ts_X10_open (Or.inl (by decide +kernel)) dX11_playTwo_14 rfl (by omega) (Nat.le_refl _) (Nat.le_refl _) rfl (Nat.le_of_ble_eq_true rfl) (fun v u hp => ?_)
  obtain ⟨rfl, rfl⟩ := hp
  show ab_T _ _ _ _ 0 0 17 _ ([]) _ _
  refine ab_iconst (pc2 := 18) (v := 0) dX11_playTwo_17 rfl ab_k_iconst_0 ?_
  refine ab_istore (pc2 := 20) (lo2 := [some (va_rf _), some (va_rf _), some (va_rf _), some (.int _), some (.int _), some (.int _), some (.int _), some (.int _)]) dX11_playTwo_18 rfl (by decide) rfl ?_
  exact ab_weak (x_X11_playTwo_l20 ht0 _ _ _ _ _ _ _ _ _ T_i1 T_i2 hf) (ab_leS (ab_leS (ab_leS (ab_leS (ab_leS (ab_leS (ab_leS (ab_leS ab_le0))))))))
set_option maxHeartbeats 4000000 in
set_option maxRecDepth 100000 in
theorem m_X11_playTwo {d : Nat} {t0 : Nat} {i1 : Option Nat} {i2 : Option Nat} {i3 : Int32} {i4 : Int32} {h : ab_HP} {r : (Int32 × ab_HP)} (ht0 : (ab_shp t0).1 = 0) (T_i1 : ∀ z, i1 = some z → (ab_shp z).1 = 3) (T_i2 : ∀ z, i2 = some z → (ab_shp z).1 = 3) (hf : f_X11_playTwo t0 i1 i2 i3 i4 h = some r) : ab_MET mX11_playTwo (d + 5) 0 0 [va_rf (some t0), va_rf i1, va_rf i2, .int i3, .int i4] h (ab_Pi r.1 r.2) := ab_met (by decide +kernel) (by decide +kernel) (by simp [ab_lo, ab_rf1, Value.category]) (by simp [ab_lo0, ab_lo, ab_rf1, Value.category, List.replicate]) (x_X11_playTwo ht0 T_i1 T_i2 hf)
set_option maxHeartbeats 4000000 in
set_option maxRecDepth 100000 in
theorem x_X11_two_b71 {d : Nat} {t0 : Nat} {i3 : Int32} {i4 : Int32} {i5 : Int32} {i6 : Option Nat} {i7 : Option Nat} {i8 : Int32} {h : ab_HP} {r : (Int32 × ab_HP)} (ht0 : (ab_shp t0).1 = 0) (T_i6 : ∀ z, i6 = some z → (ab_shp z).1 = 3) (T_i7 : ∀ z, i7 = some z → (ab_shp z).1 = 3) (hf : f_X11_two_b71 t0 i3 i4 i5 i6 i7 i8 h = some r) : ab_T mX11_two (d + 6) 0 0 0 0 71 [some (va_rf (some t0)), none, none, some (.int i3), some (.int i4), some (.int i5), some (va_rf i6), some (va_rf i7), some (.int i8), none] [] h (ab_Pi r.1 r.2) := by
  unfold f_X11_two_b71 at hf
  refine ab_iload (pc2 := 73) dX11_two_71 rfl rfl ?_
  refine ab_if_eq (tgt := 79) (pc2 := 76) dX11_two_73 (by decide) rfl hf (fun c18 hf => ?_) (fun c18 hf => ?_)
  · refine ab_aload_n (x := _) (pc2 := 80) dX11_two_79 rfl rfl ?_
    refine ab_aload (x := _) (pc2 := 82) dX11_two_80 rfl rfl ?_
    refine ab_aload (x := _) (pc2 := 84) dX11_two_82 rfl rfl ?_
    refine ab_iload_n (pc2 := 85) dX11_two_84 rfl rfl ?_
    refine ab_iload (pc2 := 87) dX11_two_85 rfl rfl ?_
    obtain ⟨w19, ew19, hf⟩ := ab_bind hf
    refine ab_callV (pc2 := 90) (st := []) rfl ht0 (by decide) (m_X11_playTwo (d := (d + 0)) ht0 T_i6 T_i7 ew19) mf_X11_playTwo tw_300 tw_299 ts_X11_playTwo (Or.inl (by decide +kernel)) dX11_two_87 rfl (by omega) (Nat.le_refl _) (Nat.le_refl _) rfl (Nat.le_of_ble_eq_true rfl) (fun v u hp => ?_)
    obtain ⟨rfl, rfl⟩ := hp
    show ab_T _ _ _ _ 0 0 90 _ (.int _ :: []) _ _
    refine ab_istore (pc2 := 92) (lo2 := [some (va_rf _), none, none, some (.int _), some (.int _), some (.int _), some (va_rf _), some (va_rf _), some (.int _), some (.int _)]) dX11_two_90 rfl (by decide) rfl ?_
    refine ab_aload_n (x := _) (pc2 := 93) dX11_two_92 rfl rfl ?_
    refine ab_getR (pc2 := 96) rfl ht0 fa_X11_25 dX11_two_93 rfl (fun T20 => ?_)
    obtain ⟨q21, hq21, hf⟩ := ab_bind hf
    obtain ⟨w22, ew22, hf⟩ := ab_bind hf
    refine ab_callV (pc2 := 99) (st := []) hq21 (T20 q21 hq21) (by decide) (m_X10_standing (d := (d + 5)) (T20 q21 hq21) ew22) mf_X10_standing tw_201 tw_200 ts_X10_standing (Or.inl (by decide +kernel)) dX11_two_96 rfl (by omega) (Nat.le_refl _) (Nat.le_refl _) rfl (Nat.le_of_ble_eq_true rfl) (fun v u hp => ?_)
    obtain ⟨rfl, rfl⟩ := hp
    show ab_T _ _ _ _ 0 0 99 _ (.int _ :: []) _ _
    refine ab_iload (pc2 := 101) dX11_two_99 rfl rfl ?_
    refine ab_if_ne (tgt := 109) (pc2 := 104) dX11_two_101 (by decide) rfl hf (fun c23 hf => ?_) (fun c23 hf => ?_)
    · refine ab_iload (pc2 := 111) dX11_two_109 rfl rfl ?_
      refine ab_iconst (pc2 := 112) (v := (-1)) dX11_two_111 rfl ab_k_iconst_m1 ?_
      refine ab_ixor (pc2 := 113) dX11_two_112 rfl ?_
      refine ab_iand (pc2 := 114) dX11_two_113 rfl ?_
      obtain ⟨w24, ew24, hf⟩ := ab_bind hf
      refine ab_callS (pc2 := 117) (st := []) (m_J6_bitCount_0f7a4 (d := (d + 5)) ew24) mf_J6_bitCount_0f7a4 tw_202 tw_203 dX11_two_114 rfl (by omega) (Nat.le_refl _) (Nat.le_refl _) rfl (Nat.le_of_ble_eq_true rfl) (fun v u hp => ?_)
      obtain ⟨rfl, rfl⟩ := hp
      show ab_T _ _ _ _ 0 0 117 _ (.int _ :: []) _ _
      cases Option.some.inj hf
      exact ab_retI dX11_two_117 (Or.inl rfl) (Nat.le_refl _) (Nat.le_refl _) ⟨rfl, rfl⟩
    · refine ab_iload (pc2 := 106) dX11_two_104 rfl rfl ?_
      refine ab_goto (tgt := 113) dX11_two_106 (by decide) ?_
      refine ab_iand (pc2 := 114) dX11_two_113 rfl ?_
      obtain ⟨w25, ew25, hf⟩ := ab_bind hf
      refine ab_callS (pc2 := 117) (st := []) (m_J6_bitCount_0f7a4 (d := (d + 5)) ew25) mf_J6_bitCount_0f7a4 tw_202 tw_203 dX11_two_114 rfl (by omega) (Nat.le_refl _) (Nat.le_refl _) rfl (Nat.le_of_ble_eq_true rfl) (fun v u hp => ?_)
      obtain ⟨rfl, rfl⟩ := hp
      show ab_T _ _ _ _ 0 0 117 _ (.int _ :: []) _ _
      cases Option.some.inj hf
      exact ab_retI dX11_two_117 (Or.inl rfl) (Nat.le_refl _) (Nat.le_refl _) ⟨rfl, rfl⟩
  · refine ab_iload (pc2 := 78) dX11_two_76 rfl rfl ?_
    cases Option.some.inj hf
    exact ab_retI dX11_two_78 (Or.inl rfl) (Nat.le_refl _) (Nat.le_refl _) ⟨rfl, rfl⟩
set_option maxHeartbeats 4000000 in
set_option maxRecDepth 100000 in
theorem x_X11_two {d : Nat} {t0 : Nat} {i1 : Int32} {i2 : Int32} {i3 : Int32} {i4 : Int32} {i5 : Int32} {h : ab_HP} {r : (Int32 × ab_HP)} (ht0 : (ab_shp t0).1 = 0) (hf : f_X11_two t0 i1 i2 i3 i4 i5 h = some r) : ab_T mX11_two (d + 6) 0 0 0 0 0 [some (va_rf (some t0)), some (.int i1), some (.int i2), some (.int i3), some (.int i4), some (.int i5), none, none, none, none] [] h (ab_Pi r.1 r.2) := by
  unfold f_X11_two at hf
  refine ab_aload_n (x := _) (pc2 := 1) dX11_two_0 rfl rfl ?_
  refine ab_iload_n (pc2 := 2) dX11_two_1 rfl rfl ?_
  obtain ⟨w1, ew1, hf⟩ := ab_bind hf
  refine ab_callV (pc2 := 5) (st := []) rfl ht0 (by decide) (m_X11_shelfAt (d := (d + 5)) ht0 ew1) mf_X11_shelfAt tw_93 tw_92 ts_X11_shelfAt (Or.inl (by decide +kernel)) dX11_two_2 rfl (by omega) (Nat.le_refl _) (Nat.le_refl _) rfl (Nat.le_of_ble_eq_true rfl) (fun v u hp => ?_)
  obtain ⟨rfl, rfl, T2⟩ := hp
  show ab_T _ _ _ _ 0 0 5 _ (va_rf _ :: []) _ _
  refine ab_astore (pc2 := 7) (lo2 := [some (va_rf _), some (.int _), some (.int _), some (.int _), some (.int _), some (.int _), some (va_rf _), none, none, none]) dX11_two_5 rfl (by decide) rfl ?_
  refine ab_aload_n (x := _) (pc2 := 8) dX11_two_7 rfl rfl ?_
  refine ab_iload_n (pc2 := 9) dX11_two_8 rfl rfl ?_
  obtain ⟨w3, ew3, hf⟩ := ab_bind hf
  refine ab_callV (pc2 := 12) (st := []) rfl ht0 (by decide) (m_X11_shelfAt (d := (d + 5)) ht0 ew3) mf_X11_shelfAt tw_93 tw_92 ts_X11_shelfAt (Or.inl (by decide +kernel)) dX11_two_9 rfl (by omega) (Nat.le_refl _) (Nat.le_refl _) rfl (Nat.le_of_ble_eq_true rfl) (fun v u hp => ?_)
  obtain ⟨rfl, rfl, T4⟩ := hp
  show ab_T _ _ _ _ 0 0 12 _ (va_rf _ :: []) _ _
  refine ab_astore (pc2 := 14) (lo2 := [some (va_rf _), some (.int _), some (.int _), some (.int _), some (.int _), some (.int _), some (va_rf _), some (va_rf _), none, none]) dX11_two_12 rfl (by decide) rfl ?_
  refine ab_aload (x := _) (pc2 := 16) dX11_two_14 rfl rfl ?_
  refine ab_nul (tgt := 50) (pc2 := 19) dX11_two_16 (by decide) rfl hf (fun hq5 hf => ?_) (fun q5 hq5 hf => ?_)
  · refine ab_iconst (pc2 := 51) (v := (-1)) dX11_two_50 rfl ab_k_iconst_m1 ?_
    cases Option.some.inj hf
    exact ab_retI dX11_two_51 (Or.inl rfl) (Nat.le_refl _) (Nat.le_refl _) ⟨rfl, rfl⟩
  · refine ab_aload (x := _) (pc2 := 21) dX11_two_19 rfl rfl ?_
    refine ab_nul (tgt := 50) (pc2 := 24) dX11_two_21 (by decide) rfl hf (fun hq6 hf => ?_) (fun q6 hq6 hf => ?_)
    · refine ab_iconst (pc2 := 51) (v := (-1)) dX11_two_50 rfl ab_k_iconst_m1 ?_
      cases Option.some.inj hf
      exact ab_retI dX11_two_51 (Or.inl rfl) (Nat.le_refl _) (Nat.le_refl _) ⟨rfl, rfl⟩
    · refine ab_iload_n (pc2 := 25) dX11_two_24 rfl rfl ?_
      obtain ⟨w7, ew7, hf⟩ := ab_bind hf
      refine ab_callS (pc2 := 28) (st := []) (m_X11_areNails (d := (d + 5)) ew7) mf_X11_areNails tw_190 tw_191 dX11_two_25 rfl (by omega) (Nat.le_refl _) (Nat.le_refl _) rfl (Nat.le_of_ble_eq_true rfl) (fun v u hp => ?_)
      obtain ⟨rfl, rfl, z8⟩ := hp
      show ab_T _ _ _ _ 0 0 28 _ (.int _ :: []) _ _
      refine ab_if_eq (tgt := 50) (pc2 := 31) dX11_two_28 (by decide) rfl hf (fun c9 hf => ?_) (fun c9 hf => ?_)
      · refine ab_iconst (pc2 := 51) (v := (-1)) dX11_two_50 rfl ab_k_iconst_m1 ?_
        cases Option.some.inj hf
        exact ab_retI dX11_two_51 (Or.inl rfl) (Nat.le_refl _) (Nat.le_refl _) ⟨rfl, rfl⟩
      · refine ab_iload (pc2 := 33) dX11_two_31 rfl rfl ?_
        obtain ⟨w10, ew10, hf⟩ := ab_bind hf
        refine ab_callS (pc2 := 36) (st := []) (m_X11_areNails (d := (d + 5)) ew10) mf_X11_areNails tw_190 tw_191 dX11_two_33 rfl (by omega) (Nat.le_refl _) (Nat.le_refl _) rfl (Nat.le_of_ble_eq_true rfl) (fun v u hp => ?_)
        obtain ⟨rfl, rfl, z11⟩ := hp
        show ab_T _ _ _ _ 0 0 36 _ (.int _ :: []) _ _
        refine ab_if_eq (tgt := 50) (pc2 := 39) dX11_two_36 (by decide) rfl hf (fun c12 hf => ?_) (fun c12 hf => ?_)
        · refine ab_iconst (pc2 := 51) (v := (-1)) dX11_two_50 rfl ab_k_iconst_m1 ?_
          cases Option.some.inj hf
          exact ab_retI dX11_two_51 (Or.inl rfl) (Nat.le_refl _) (Nat.le_refl _) ⟨rfl, rfl⟩
        · refine ab_iload (pc2 := 41) dX11_two_39 rfl rfl ?_
          refine ab_if_lt (tgt := 50) (pc2 := 44) dX11_two_41 (by decide) rfl hf (fun c13 hf => ?_) (fun c13 hf => ?_)
          · refine ab_iconst (pc2 := 51) (v := (-1)) dX11_two_50 rfl ab_k_iconst_m1 ?_
            cases Option.some.inj hf
            exact ab_retI dX11_two_51 (Or.inl rfl) (Nat.le_refl _) (Nat.le_refl _) ⟨rfl, rfl⟩
          · refine ab_iload (pc2 := 46) dX11_two_44 rfl rfl ?_
            refine ab_iconst (pc2 := 47) (v := 1) dX11_two_46 rfl ab_k_iconst_1 ?_
            refine ab_icmp_le (tgt := 52) (pc2 := 50) dX11_two_47 (by decide) rfl hf (fun c14 hf => ?_) (fun c14 hf => ?_)
            · refine ab_aload_n (x := _) (pc2 := 53) dX11_two_52 rfl rfl ?_
              refine ab_iload_n (pc2 := 54) dX11_two_53 rfl rfl ?_
              obtain ⟨w15, ew15, hf⟩ := ab_bind hf
              refine ab_callV (pc2 := 57) (st := []) rfl ht0 (by decide) (m_X11_listRefusal (d := (d + 3)) ht0 ew15) mf_X11_listRefusal tw_156 tw_155 ts_X11_listRefusal (Or.inl (by decide +kernel)) dX11_two_54 rfl (by omega) (Nat.le_refl _) (Nat.le_refl _) rfl (Nat.le_of_ble_eq_true rfl) (fun v u hp => ?_)
              obtain ⟨rfl, rfl⟩ := hp
              show ab_T _ _ _ _ 0 0 57 _ (.int _ :: []) _ _
              refine ab_istore (pc2 := 59) (lo2 := [some (va_rf _), some (.int _), some (.int _), some (.int _), some (.int _), some (.int _), some (va_rf _), some (va_rf _), some (.int _), none]) dX11_two_57 rfl (by decide) rfl ?_
              refine ab_iload (pc2 := 61) dX11_two_59 rfl rfl ?_
              refine ab_if_ne (tgt := 71) (pc2 := 64) dX11_two_61 (by decide) rfl hf (fun c16 hf => ?_) (fun c16 hf => ?_)
              · exact ab_weak (x_X11_two_b71 ht0 T2 T4 hf) (ab_leS (ab_leN (ab_leN (ab_leS (ab_leS (ab_leS (ab_leS (ab_leS (ab_leS (ab_leN ab_le0))))))))))
              · refine ab_aload_n (x := _) (pc2 := 65) dX11_two_64 rfl rfl ?_
                refine ab_iload_n (pc2 := 66) dX11_two_65 rfl rfl ?_
                obtain ⟨w17, ew17, hf⟩ := ab_bind hf
                refine ab_callV (pc2 := 69) (st := []) rfl ht0 (by decide) (m_X11_listRefusal (d := (d + 3)) ht0 ew17) mf_X11_listRefusal tw_156 tw_155 ts_X11_listRefusal (Or.inl (by decide +kernel)) dX11_two_66 rfl (by omega) (Nat.le_refl _) (Nat.le_refl _) rfl (Nat.le_of_ble_eq_true rfl) (fun v u hp => ?_)
                obtain ⟨rfl, rfl⟩ := hp
                show ab_T _ _ _ _ 0 0 69 _ (.int _ :: []) _ _
                refine ab_istore (pc2 := 71) (lo2 := [some (va_rf _), some (.int _), some (.int _), some (.int _), some (.int _), some (.int _), some (va_rf _), some (va_rf _), some (.int _), none]) dX11_two_69 rfl (by decide) rfl ?_
                exact ab_weak (x_X11_two_b71 ht0 T2 T4 hf) (ab_leS (ab_leN (ab_leN (ab_leS (ab_leS (ab_leS (ab_leS (ab_leS (ab_leS (ab_leN ab_le0))))))))))
            · refine ab_iconst (pc2 := 51) (v := (-1)) dX11_two_50 rfl ab_k_iconst_m1 ?_
              cases Option.some.inj hf
              exact ab_retI dX11_two_51 (Or.inl rfl) (Nat.le_refl _) (Nat.le_refl _) ⟨rfl, rfl⟩
set_option maxHeartbeats 4000000 in
set_option maxRecDepth 100000 in
theorem m_X11_two {d : Nat} {t0 : Nat} {i1 : Int32} {i2 : Int32} {i3 : Int32} {i4 : Int32} {i5 : Int32} {h : ab_HP} {r : (Int32 × ab_HP)} (ht0 : (ab_shp t0).1 = 0) (hf : f_X11_two t0 i1 i2 i3 i4 i5 h = some r) : ab_MET mX11_two (d + 6) 0 0 [va_rf (some t0), .int i1, .int i2, .int i3, .int i4, .int i5] h (ab_Pi r.1 r.2) := ab_met (by decide +kernel) (by decide +kernel) (Nat.le_of_ble_eq_true rfl) rfl (x_X11_two ht0 hf)
set_option maxHeartbeats 4000000 in
set_option maxRecDepth 100000 in
theorem x_X11_month_l4 {d : Nat} {t0 : Nat} {r : Int32} (ht0 : (ab_shp t0).1 = 0) : ∀ (n : Nat) (i1 : Int32) (i2 : Int32) (h : ab_HP), f_X11_month_l4 t0 n i1 i2 h = some r → ab_T mX11_month (d + 1) 0 0 0 0 4 [some (va_rf (some t0)), some (.int i1), some (.int i2)] [] h (ab_Pi r h) := by
  intro n
  induction n with
  | zero =>
    intro i1 i2 h hf
    rw [f_X11_month_l4] at hf
    cases hf
  | succ n ih =>
    intro i1 i2 h hf
    rw [f_X11_month_l4] at hf
    refine ab_iload_n (pc2 := 5) dX11_month_4 rfl rfl ?_
    refine ab_bipush (pc2 := 7) (v := 8) dX11_month_5 rfl ab_k_bipush_8 ?_
    refine ab_icmp_ge (tgt := 37) (pc2 := 10) dX11_month_7 (by decide) rfl hf (fun c1 hf => ?_) (fun c1 hf => ?_)
    · refine ab_iload_n (pc2 := 38) dX11_month_37 rfl rfl ?_
      cases Option.some.inj hf
      exact ab_retI dX11_month_38 (Or.inl rfl) (Nat.le_refl _) (Nat.le_refl _) ⟨rfl, rfl⟩
    · refine ab_aload_n (x := _) (pc2 := 11) dX11_month_10 rfl rfl ?_
      refine ab_getR (pc2 := 14) rfl ht0 fa_X11_10 dX11_month_11 rfl (fun T2 => ?_)
      refine ab_iload_n (pc2 := 15) dX11_month_14 rfl rfl ?_
      obtain ⟨q3, hq3, hf⟩ := ab_bind hf
      obtain ⟨w4, ew4, hf⟩ := ab_bind hf
      refine ab_callV (pc2 := 18) (st := []) hq3 (T2 q3 hq3) (by decide) (m_X9_nailCost (d := (d + 0)) (T2 q3 hq3) ew4) mf_X9_nailCost tw_301 tw_161 ts_X9_nailCost (Or.inl (by decide +kernel)) dX11_month_15 rfl (by omega) (Nat.le_refl _) (Nat.le_refl _) rfl (Nat.le_of_ble_eq_true rfl) (fun v u hp => ?_)
      obtain ⟨rfl, rfl⟩ := hp
      show ab_T _ _ _ _ 0 0 18 _ (.int _ :: []) _ _
      refine ab_aload_n (x := _) (pc2 := 19) dX11_month_18 rfl rfl ?_
      refine ab_getR (pc2 := 22) rfl ht0 fa_X11_10 dX11_month_19 rfl (fun T5 => ?_)
      refine ab_iload_n (pc2 := 23) dX11_month_22 rfl rfl ?_
      obtain ⟨q6, hq6, hf⟩ := ab_bind hf
      obtain ⟨w7, ew7, hf⟩ := ab_bind hf
      refine ab_callV (pc2 := 26) (st := [_]) hq6 (T5 q6 hq6) (by decide) (m_X9_nailCost (d := (d + 0)) (T5 q6 hq6) ew7) mf_X9_nailCost tw_301 tw_161 ts_X9_nailCost (Or.inl (by decide +kernel)) dX11_month_23 rfl (by omega) (Nat.le_refl _) (Nat.le_refl _) rfl (Nat.le_of_ble_eq_true rfl) (fun v u hp => ?_)
      obtain ⟨rfl, rfl⟩ := hp
      show ab_T _ _ _ _ 0 0 26 _ (.int _ :: [_]) _ _
      refine ab_icmp_ge (tgt := 31) (pc2 := 29) dX11_month_26 (by decide) rfl hf (fun c8 hf => ?_) (fun c8 hf => ?_)
      · refine ab_iinc (pc2 := 34) (v := _ + 1) (lo2 := [some (va_rf _), some (.int _), some (.int _)]) dX11_month_31 rfl rfl rfl (by decide) rfl ?_
        refine ab_goto (tgt := 4) dX11_month_34 (by decide) ?_
        exact ab_weak (ih _ _ _ hf) (ab_leS (ab_leS (ab_leS ab_le0)))
      · refine ab_iload_n (pc2 := 30) dX11_month_29 rfl rfl ?_
        refine ab_istore_n (pc2 := 31) (lo2 := [some (va_rf _), some (.int _), some (.int _)]) dX11_month_30 rfl (by decide) rfl ?_
        refine ab_iinc (pc2 := 34) (v := _ + 1) (lo2 := [some (va_rf _), some (.int _), some (.int _)]) dX11_month_31 rfl rfl rfl (by decide) rfl ?_
        refine ab_goto (tgt := 4) dX11_month_34 (by decide) ?_
        exact ab_weak (ih _ _ _ hf) (ab_leS (ab_leS (ab_leS ab_le0)))
set_option maxHeartbeats 4000000 in
set_option maxRecDepth 100000 in
theorem x_X11_month {d : Nat} {t0 : Nat} {h : ab_HP} {r : Int32} (ht0 : (ab_shp t0).1 = 0) (hf : f_X11_month t0 h = some r) : ab_T mX11_month (d + 1) 0 0 0 0 0 [some (va_rf (some t0)), none, none] [] h (ab_Pi r h) := by
  unfold f_X11_month at hf
  refine ab_iconst (pc2 := 1) (v := 0) dX11_month_0 rfl ab_k_iconst_0 ?_
  refine ab_istore_n (pc2 := 2) (lo2 := [some (va_rf _), some (.int _), none]) dX11_month_1 rfl (by decide) rfl ?_
  refine ab_iconst (pc2 := 3) (v := 1) dX11_month_2 rfl ab_k_iconst_1 ?_
  refine ab_istore_n (pc2 := 4) (lo2 := [some (va_rf _), some (.int _), some (.int _)]) dX11_month_3 rfl (by decide) rfl ?_
  exact ab_weak (x_X11_month_l4 ht0 _ _ _ _ hf) (ab_leS (ab_leS (ab_leS ab_le0)))
set_option maxHeartbeats 4000000 in
set_option maxRecDepth 100000 in
theorem m_X11_month {d : Nat} {t0 : Nat} {h : ab_HP} {r : Int32} (ht0 : (ab_shp t0).1 = 0) (hf : f_X11_month t0 h = some r) : ab_MET mX11_month (d + 1) 0 0 [va_rf (some t0)] h (ab_Pi r h) := ab_met (by decide +kernel) (by decide +kernel) (Nat.le_of_ble_eq_true rfl) rfl (x_X11_month ht0 hf)
set_option maxHeartbeats 4000000 in
set_option maxRecDepth 100000 in
theorem x_X11_nail {d : Nat} {t0 : Nat} {i1 : Int32} {h : ab_HP} {r : Int32} (ht0 : (ab_shp t0).1 = 0) (hf : f_X11_nail t0 i1 h = some r) : ab_T mX11_nail (d + 1) 0 0 0 0 0 [some (va_rf (some t0)), some (.int i1)] [] h (ab_Pi r h) := by
  unfold f_X11_nail at hf
  refine ab_iload_n (pc2 := 1) dX11_nail_0 rfl rfl ?_
  refine ab_if_lt (tgt := 10) (pc2 := 4) dX11_nail_1 (by decide) rfl hf (fun c1 hf => ?_) (fun c1 hf => ?_)
  · refine ab_iconst (pc2 := 11) (v := (-1)) dX11_nail_10 rfl ab_k_iconst_m1 ?_
    refine ab_goto (tgt := 22) dX11_nail_11 (by decide) ?_
    cases Option.some.inj hf
    exact ab_retI dX11_nail_22 (Or.inl rfl) (Nat.le_refl _) (Nat.le_refl _) ⟨rfl, rfl⟩
  · refine ab_iload_n (pc2 := 5) dX11_nail_4 rfl rfl ?_
    refine ab_bipush (pc2 := 7) (v := 8) dX11_nail_5 rfl ab_k_bipush_8 ?_
    refine ab_icmp_lt (tgt := 14) (pc2 := 10) dX11_nail_7 (by decide) rfl hf (fun c2 hf => ?_) (fun c2 hf => ?_)
    · refine ab_aload_n (x := _) (pc2 := 15) dX11_nail_14 rfl rfl ?_
      refine ab_getR (pc2 := 18) rfl ht0 fa_X11_10 dX11_nail_15 rfl (fun T3 => ?_)
      refine ab_iload_n (pc2 := 19) dX11_nail_18 rfl rfl ?_
      obtain ⟨q4, hq4, hf⟩ := ab_bind hf
      obtain ⟨w5, ew5, hf⟩ := ab_bind hf
      refine ab_callV (pc2 := 22) (st := []) hq4 (T3 q4 hq4) (by decide) (m_X9_nailCost (d := (d + 0)) (T3 q4 hq4) ew5) mf_X9_nailCost tw_301 tw_161 ts_X9_nailCost (Or.inl (by decide +kernel)) dX11_nail_19 rfl (by omega) (Nat.le_refl _) (Nat.le_refl _) rfl (Nat.le_of_ble_eq_true rfl) (fun v u hp => ?_)
      obtain ⟨rfl, rfl⟩ := hp
      show ab_T _ _ _ _ 0 0 22 _ (.int _ :: []) _ _
      cases Option.some.inj hf
      exact ab_retI dX11_nail_22 (Or.inl rfl) (Nat.le_refl _) (Nat.le_refl _) ⟨rfl, rfl⟩
    · refine ab_iconst (pc2 := 11) (v := (-1)) dX11_nail_10 rfl ab_k_iconst_m1 ?_
      refine ab_goto (tgt := 22) dX11_nail_11 (by decide) ?_
      cases Option.some.inj hf
      exact ab_retI dX11_nail_22 (Or.inl rfl) (Nat.le_refl _) (Nat.le_refl _) ⟨rfl, rfl⟩
set_option maxHeartbeats 4000000 in
set_option maxRecDepth 100000 in
theorem m_X11_nail {d : Nat} {t0 : Nat} {i1 : Int32} {h : ab_HP} {r : Int32} (ht0 : (ab_shp t0).1 = 0) (hf : f_X11_nail t0 i1 h = some r) : ab_MET mX11_nail (d + 1) 0 0 [va_rf (some t0), .int i1] h (ab_Pi r h) := ab_met (by decide +kernel) (by decide +kernel) (Nat.le_of_ble_eq_true rfl) rfl (x_X11_nail ht0 hf)
set_option maxHeartbeats 4000000 in
set_option maxRecDepth 100000 in
theorem x_X11_byLaw {d : Nat} {t0 : Nat} {i1 : Int32} {i2 : Int32} {i3 : Int32} {h : ab_HP} {r : (Int32 × ab_HP)} (ht0 : (ab_shp t0).1 = 0) (hf : f_X11_byLaw t0 i1 i2 i3 h = some r) : ab_T mX11_byLaw (d + 5) 0 0 0 0 0 [some (va_rf (some t0)), some (.int i1), some (.int i2), some (.int i3), none] [] h (ab_Pi r.1 r.2) := by
  unfold f_X11_byLaw at hf
  refine ab_iload_n (pc2 := 1) dX11_byLaw_0 rfl rfl ?_
  refine ab_if_lt (tgt := 16) (pc2 := 4) dX11_byLaw_1 (by decide) rfl hf (fun c1 hf => ?_) (fun c1 hf => ?_)
  · refine ab_iconst (pc2 := 17) (v := (-1)) dX11_byLaw_16 rfl ab_k_iconst_m1 ?_
    cases Option.some.inj hf
    exact ab_retI dX11_byLaw_17 (Or.inl rfl) (Nat.le_refl _) (Nat.le_refl _) ⟨rfl, rfl⟩
  · refine ab_iload_n (pc2 := 5) dX11_byLaw_4 rfl rfl ?_
    refine ab_iconst (pc2 := 6) (v := 3) dX11_byLaw_5 rfl ab_k_iconst_3 ?_
    refine ab_icmp_ge (tgt := 16) (pc2 := 9) dX11_byLaw_6 (by decide) rfl hf (fun c2 hf => ?_) (fun c2 hf => ?_)
    · refine ab_iconst (pc2 := 17) (v := (-1)) dX11_byLaw_16 rfl ab_k_iconst_m1 ?_
      cases Option.some.inj hf
      exact ab_retI dX11_byLaw_17 (Or.inl rfl) (Nat.le_refl _) (Nat.le_refl _) ⟨rfl, rfl⟩
    · refine ab_iload_n (pc2 := 10) dX11_byLaw_9 rfl rfl ?_
      obtain ⟨w3, ew3, hf⟩ := ab_bind hf
      refine ab_callS (pc2 := 13) (st := []) (m_X11_areNails (d := (d + 4)) ew3) mf_X11_areNails tw_190 tw_191 dX11_byLaw_10 rfl (by omega) (Nat.le_refl _) (Nat.le_refl _) rfl (Nat.le_of_ble_eq_true rfl) (fun v u hp => ?_)
      obtain ⟨rfl, rfl, z4⟩ := hp
      show ab_T _ _ _ _ 0 0 13 _ (.int _ :: []) _ _
      refine ab_if_ne (tgt := 18) (pc2 := 16) dX11_byLaw_13 (by decide) rfl hf (fun c5 hf => ?_) (fun c5 hf => ?_)
      · refine ab_aload_n (x := _) (pc2 := 19) dX11_byLaw_18 rfl rfl ?_
        refine ab_iload_n (pc2 := 20) dX11_byLaw_19 rfl rfl ?_
        obtain ⟨w6, ew6, hf⟩ := ab_bind hf
        refine ab_callV (pc2 := 23) (st := []) rfl ht0 (by decide) (m_X11_takeList (d := (d + 1)) ht0 ew6) mf_X11_takeList tw_193 tw_192 ts_X11_takeList (Or.inl (by decide +kernel)) dX11_byLaw_20 rfl (by omega) (Nat.le_refl _) (Nat.le_refl _) rfl (Nat.le_of_ble_eq_true rfl) (fun v u hp => ?_)
        obtain ⟨rfl, rfl⟩ := hp
        show ab_T _ _ _ _ 0 0 23 _ (.int _ :: []) _ _
        refine ab_istore (pc2 := 25) (lo2 := [some (va_rf _), some (.int _), some (.int _), some (.int _), some (.int _)]) dX11_byLaw_23 rfl (by decide) rfl ?_
        refine ab_iload (pc2 := 27) dX11_byLaw_25 rfl rfl ?_
        refine ab_if_eq (tgt := 33) (pc2 := 30) dX11_byLaw_27 (by decide) rfl hf (fun c7 hf => ?_) (fun c7 hf => ?_)
        · refine ab_aload_n (x := _) (pc2 := 34) dX11_byLaw_33 rfl rfl ?_
          refine ab_getR (pc2 := 37) rfl ht0 fa_X11_25 dX11_byLaw_34 rfl (fun T8 => ?_)
          refine ab_iload_n (pc2 := 38) dX11_byLaw_37 rfl rfl ?_
          obtain ⟨q9, hq9, hf⟩ := ab_bind hf
          have hf := ab_let_e hf
          refine ab_putI (pc2 := 41) hq9 (T8 q9 hq9) fa_X11_229 (Or.inl rfl) (fun z => by cases z) dX11_byLaw_38 rfl ?_
          refine ab_aload_n (x := _) (pc2 := 42) dX11_byLaw_41 rfl rfl ?_
          refine ab_getR (pc2 := 45) rfl ht0 fa_X11_25 dX11_byLaw_42 rfl (fun T11 => ?_)
          refine ab_iload_n (pc2 := 46) dX11_byLaw_45 rfl rfl ?_
          obtain ⟨q12, hq12, hf⟩ := ab_bind hf
          obtain ⟨w13, ew13, hf⟩ := ab_bind hf
          refine ab_callV (pc2 := 49) (st := []) hq12 (T11 q12 hq12) (by decide) (m_X10_play (d := (d + 0)) (T11 q12 hq12) ew13) mf_X10_play tw_195 tw_194 ts_X10_play (Or.inl (by decide +kernel)) dX11_byLaw_46 rfl (by omega) (Nat.le_refl _) (Nat.le_refl _) rfl (Nat.le_of_ble_eq_true rfl) (fun v u hp => ?_)
          obtain ⟨rfl, rfl⟩ := hp
          show ab_T _ _ _ _ 0 0 49 _ ([]) _ _
          refine ab_aload_n (x := _) (pc2 := 50) dX11_byLaw_49 rfl rfl ?_
          refine ab_getR (pc2 := 53) rfl ht0 fa_X11_25 dX11_byLaw_50 rfl (fun T14 => ?_)
          obtain ⟨q15, hq15, hf⟩ := ab_bind hf
          refine ab_getI (pc2 := 56) hq15 (T14 q15 hq15) fa_X11_155 (by decide) dX11_byLaw_53 rfl ?_
          obtain ⟨w16, ew16, hf⟩ := ab_bind hf
          refine ab_callS (pc2 := 59) (st := []) (m_J6_bitCount_0f7a4 (d := (d + 4)) ew16) mf_J6_bitCount_0f7a4 tw_202 tw_203 dX11_byLaw_56 rfl (by omega) (Nat.le_refl _) (Nat.le_refl _) rfl (Nat.le_of_ble_eq_true rfl) (fun v u hp => ?_)
          obtain ⟨rfl, rfl⟩ := hp
          show ab_T _ _ _ _ 0 0 59 _ (.int _ :: []) _ _
          cases Option.some.inj hf
          exact ab_retI dX11_byLaw_59 (Or.inl rfl) (Nat.le_refl _) (Nat.le_refl _) ⟨rfl, rfl⟩
        · refine ab_iload (pc2 := 32) dX11_byLaw_30 rfl rfl ?_
          cases Option.some.inj hf
          exact ab_retI dX11_byLaw_32 (Or.inl rfl) (Nat.le_refl _) (Nat.le_refl _) ⟨rfl, rfl⟩
      · refine ab_iconst (pc2 := 17) (v := (-1)) dX11_byLaw_16 rfl ab_k_iconst_m1 ?_
        cases Option.some.inj hf
        exact ab_retI dX11_byLaw_17 (Or.inl rfl) (Nat.le_refl _) (Nat.le_refl _) ⟨rfl, rfl⟩
set_option maxHeartbeats 4000000 in
set_option maxRecDepth 100000 in
theorem m_X11_byLaw {d : Nat} {t0 : Nat} {i1 : Int32} {i2 : Int32} {i3 : Int32} {h : ab_HP} {r : (Int32 × ab_HP)} (ht0 : (ab_shp t0).1 = 0) (hf : f_X11_byLaw t0 i1 i2 i3 h = some r) : ab_MET mX11_byLaw (d + 5) 0 0 [va_rf (some t0), .int i1, .int i2, .int i3] h (ab_Pi r.1 r.2) := ab_met (by decide +kernel) (by decide +kernel) (Nat.le_of_ble_eq_true rfl) rfl (x_X11_byLaw ht0 hf)
set_option maxHeartbeats 4000000 in
set_option maxRecDepth 100000 in
theorem x_X11_nextSeed {d : Nat} {i0 : Int32} {h : ab_HP} {r : Int32}  (hf : f_X11_nextSeed i0 h = some r) : ab_T mX11_nextSeed (d + 0) 0 0 0 0 0 [some (.int i0)] [] h (ab_Pi r h) := by
  unfold f_X11_nextSeed at hf
  refine ab_iload_n (pc2 := 1) dX11_nextSeed_0 rfl rfl ?_
  refine ab_ldcw (pc2 := 4) (v := 1103515245) dX11_nextSeed_1 rfl tw_302 ?_
  refine ab_imul (pc2 := 5) dX11_nextSeed_4 rfl ?_
  refine ab_sipush (pc2 := 8) (v := 12345) dX11_nextSeed_5 rfl ab_k_sipush_12345 ?_
  refine ab_iadd (pc2 := 9) dX11_nextSeed_8 rfl ?_
  cases Option.some.inj hf
  exact ab_retI dX11_nextSeed_9 (Or.inl rfl) (Nat.le_refl _) (Nat.le_refl _) ⟨rfl, rfl⟩
set_option maxHeartbeats 4000000 in
set_option maxRecDepth 100000 in
theorem m_X11_nextSeed {d : Nat} {i0 : Int32} {h : ab_HP} {r : Int32}  (hf : f_X11_nextSeed i0 h = some r) : ab_MET mX11_nextSeed (d + 0) 0 0 [.int i0] h (ab_Pi r h) := ab_met (by decide +kernel) (by decide +kernel) (Nat.le_of_ble_eq_true rfl) rfl (x_X11_nextSeed  hf)
set_option maxHeartbeats 4000000 in
set_option maxRecDepth 100000 in
theorem x_X11_drawn {d : Nat} {i0 : Int32} {i1 : Int32} {h : ab_HP} {r : Int32}  (hf : f_X11_drawn i0 i1 h = some r) : ab_T mX11_drawn (d + 0) 0 0 0 0 0 [some (.int i0), some (.int i1)] [] h (ab_Pi r h) := by
  unfold f_X11_drawn at hf
  refine ab_iload_n (pc2 := 1) dX11_drawn_0 rfl rfl ?_
  refine ab_if_gt (tgt := 8) (pc2 := 4) dX11_drawn_1 (by decide) rfl hf (fun c1 hf => ?_) (fun c1 hf => ?_)
  · refine ab_iload_n (pc2 := 9) dX11_drawn_8 rfl rfl ?_
    refine ab_ldcw (pc2 := 12) (v := 2147483647) dX11_drawn_9 rfl tw_303 ?_
    refine ab_iand (pc2 := 13) dX11_drawn_12 rfl ?_
    refine ab_ldcw (pc2 := 16) (v := 65536) dX11_drawn_13 rfl tw_304 ?_
    refine ab_idiv (pc2 := 17) dX11_drawn_16 rfl (by decide) ?_
    refine ab_iload_n (pc2 := 18) dX11_drawn_17 rfl rfl ?_
    obtain ⟨hz, hf⟩ := ab_guardN hf
    refine ab_irem (pc2 := 19) dX11_drawn_18 rfl hz ?_
    cases Option.some.inj hf
    exact ab_retI dX11_drawn_19 (Or.inl rfl) (Nat.le_refl _) (Nat.le_refl _) ⟨rfl, rfl⟩
  · refine ab_iconst (pc2 := 5) (v := 0) dX11_drawn_4 rfl ab_k_iconst_0 ?_
    refine ab_goto (tgt := 19) dX11_drawn_5 (by decide) ?_
    cases Option.some.inj hf
    exact ab_retI dX11_drawn_19 (Or.inl rfl) (Nat.le_refl _) (Nat.le_refl _) ⟨rfl, rfl⟩
set_option maxHeartbeats 4000000 in
set_option maxRecDepth 100000 in
theorem m_X11_drawn {d : Nat} {i0 : Int32} {i1 : Int32} {h : ab_HP} {r : Int32}  (hf : f_X11_drawn i0 i1 h = some r) : ab_MET mX11_drawn (d + 0) 0 0 [.int i0, .int i1] h (ab_Pi r h) := ab_met (by decide +kernel) (by decide +kernel) (Nat.le_of_ble_eq_true rfl) rfl (x_X11_drawn  hf)
set_option maxHeartbeats 4000000 in
set_option maxRecDepth 100000 in
theorem x_X11_playSeeds_l66 {d : Nat} {k29 : Int32 → Int32 → Int32 → Int32 → ab_HP → Option (Int32 × ab_HP)} {t0 : Nat} {r : (Int32 × ab_HP)} (ht0 : (ab_shp t0).1 = 0) (hk29 : ∀ (i1 : Int32) (i3 : Int32) (i4 : Int32) (i5 : Int32) (h : ab_HP), k29 i1 i3 i4 i5 h = some r → ab_T mX11_playSeeds (d + 4) 0 0 0 0 29 [some (va_rf (some t0)), some (.int i1), none, some (.int i3), some (.int i4), some (.int i5), none, none] [] h (ab_Pi r.1 r.2)) : ∀ (n : Nat) (i1 : Int32) (i3 : Int32) (i4 : Int32) (i5 : Int32) (i6 : Int32) (i7 : Int32) (h : ab_HP), f_X11_playSeeds_l66 k29 t0 n i1 i3 i4 i5 i6 i7 h = some r → ab_T mX11_playSeeds (d + 4) 0 0 0 0 66 [some (va_rf (some t0)), some (.int i1), none, some (.int i3), some (.int i4), some (.int i5), some (.int i6), some (.int i7)] [] h (ab_Pi r.1 r.2) := by
  intro n
  induction n with
  | zero =>
    intro i1 i3 i4 i5 i6 i7 h hf
    rw [f_X11_playSeeds_l66] at hf
    cases hf
  | succ n ih =>
    intro i1 i3 i4 i5 i6 i7 h hf
    rw [f_X11_playSeeds_l66] at hf
    refine ab_iload (pc2 := 68) dX11_playSeeds_66 rfl rfl ?_
    refine ab_iload (pc2 := 70) dX11_playSeeds_68 rfl rfl ?_
    refine ab_icmp_ge (tgt := 112) (pc2 := 73) dX11_playSeeds_70 (by decide) rfl hf (fun c15 hf => ?_) (fun c15 hf => ?_)
    · refine ab_iload (pc2 := 114) dX11_playSeeds_112 rfl rfl ?_
      obtain ⟨w16, ew16, hf⟩ := ab_bind hf
      refine ab_callS (pc2 := 117) (st := []) (m_X11_nextSeed (d := (d + 3)) ew16) mf_X11_nextSeed tw_305 tw_306 dX11_playSeeds_114 rfl (by omega) (Nat.le_refl _) (Nat.le_refl _) rfl (Nat.le_of_ble_eq_true rfl) (fun v u hp => ?_)
      obtain ⟨rfl, rfl⟩ := hp
      show ab_T _ _ _ _ 0 0 117 _ (.int _ :: []) _ _
      refine ab_istore (pc2 := 119) (lo2 := [some (va_rf _), some (.int _), none, some (.int _), some (.int _), some (.int _), some (.int _), some (.int _)]) dX11_playSeeds_117 rfl (by decide) rfl ?_
      refine ab_aload_n (x := _) (pc2 := 120) dX11_playSeeds_119 rfl rfl ?_
      refine ab_getR (pc2 := 123) rfl ht0 fa_X11_25 dX11_playSeeds_120 rfl (fun T17 => ?_)
      refine ab_aload_n (x := _) (pc2 := 124) dX11_playSeeds_123 rfl rfl ?_
      refine ab_getR (pc2 := 127) rfl ht0 fa_X11_25 dX11_playSeeds_124 rfl (fun T18 => ?_)
      obtain ⟨q19, hq19, hf⟩ := ab_bind hf
      refine ab_getI (pc2 := 130) hq19 (T18 q19 hq19) fa_X11_155 (by decide) dX11_playSeeds_127 rfl ?_
      refine ab_aload_n (x := _) (pc2 := 131) dX11_playSeeds_130 rfl rfl ?_
      refine ab_getR (pc2 := 134) rfl ht0 fa_X11_25 dX11_playSeeds_131 rfl (fun T20 => ?_)
      obtain ⟨q21, hq21, hf⟩ := ab_bind hf
      refine ab_getI (pc2 := 137) hq21 (T20 q21 hq21) fa_X11_162 (by decide) dX11_playSeeds_134 rfl ?_
      obtain ⟨w22, ew22, hf⟩ := ab_bind hf
      refine ab_callV (pc2 := 140) (st := []) hq21 (T20 q21 hq21) (by decide) (m_X10_begin (d := (d + 3)) (T20 q21 hq21) ew22) mf_X10_begin tw_233 tw_184 ts_X10_begin (Or.inl (by decide +kernel)) dX11_playSeeds_137 rfl (by omega) (Nat.le_refl _) (Nat.le_refl _) rfl (Nat.le_of_ble_eq_true rfl) (fun v u hp => ?_)
      obtain ⟨rfl, rfl⟩ := hp
      show ab_T _ _ _ _ 0 0 140 _ ([]) _ _
      refine ab_aload_n (x := _) (pc2 := 141) dX11_playSeeds_140 rfl rfl ?_
      refine ab_getR (pc2 := 144) rfl ht0 fa_X11_25 dX11_playSeeds_141 rfl (fun T23 => ?_)
      refine ab_iload (pc2 := 146) dX11_playSeeds_144 rfl rfl ?_
      refine ab_iconst (pc2 := 147) (v := 1) dX11_playSeeds_146 rfl ab_k_iconst_1 ?_
      refine ab_iload (pc2 := 149) dX11_playSeeds_147 rfl rfl ?_
      refine ab_ishl (pc2 := 150) dX11_playSeeds_149 rfl ?_
      obtain ⟨w24, ew24, hf⟩ := ab_bind hf
      refine ab_callS (pc2 := 153) (st := [_]) (m_X11_drawn (d := (d + 3)) ew24) mf_X11_drawn tw_307 tw_308 dX11_playSeeds_150 rfl (by omega) (Nat.le_refl _) (Nat.le_refl _) rfl (Nat.le_of_ble_eq_true rfl) (fun v u hp => ?_)
      obtain ⟨rfl, rfl⟩ := hp
      show ab_T _ _ _ _ 0 0 153 _ (.int _ :: [_]) _ _
      obtain ⟨q25, hq25, hf⟩ := ab_bind hf
      obtain ⟨w26, ew26, hf⟩ := ab_bind hf
      refine ab_callV (pc2 := 156) (st := []) hq25 (T23 q25 hq25) (by decide) (m_X10_evenYear (d := (d + 0)) (T23 q25 hq25) ew26) mf_X10_evenYear tw_234 tw_186 ts_X10_evenYear (Or.inl (by decide +kernel)) dX11_playSeeds_153 rfl (by omega) (Nat.le_refl _) (Nat.le_refl _) rfl (Nat.le_of_ble_eq_true rfl) (fun v u hp => ?_)
      obtain ⟨rfl, rfl⟩ := hp
      show ab_T _ _ _ _ 0 0 156 _ ([]) _ _
      refine ab_aload_n (x := _) (pc2 := 157) dX11_playSeeds_156 rfl rfl ?_
      refine ab_getR (pc2 := 160) rfl ht0 fa_X11_25 dX11_playSeeds_157 rfl (fun T27 => ?_)
      obtain ⟨q28, hq28, hf⟩ := ab_bind hf
      obtain ⟨w29, ew29, hf⟩ := ab_bind hf
      refine ab_callV (pc2 := 163) (st := []) hq28 (T27 q28 hq28) (by decide) (m_X10_oddYear (d := (d + 0)) (T27 q28 hq28) ew29) mf_X10_oddYear tw_267 tw_188 ts_X10_oddYear (Or.inl (by decide +kernel)) dX11_playSeeds_160 rfl (by omega) (Nat.le_refl _) (Nat.le_refl _) rfl (Nat.le_of_ble_eq_true rfl) (fun v u hp => ?_)
      obtain ⟨rfl, rfl⟩ := hp
      show ab_T _ _ _ _ 0 0 163 _ ([]) _ _
      refine ab_iload_n (pc2 := 164) dX11_playSeeds_163 rfl rfl ?_
      refine ab_aload_n (x := _) (pc2 := 165) dX11_playSeeds_164 rfl rfl ?_
      refine ab_getR (pc2 := 168) rfl ht0 fa_X11_25 dX11_playSeeds_165 rfl (fun T30 => ?_)
      obtain ⟨q31, hq31, hf⟩ := ab_bind hf
      refine ab_getI (pc2 := 171) hq31 (T30 q31 hq31) fa_X11_163 (by decide) dX11_playSeeds_168 rfl ?_
      obtain ⟨w32, ew32, hf⟩ := ab_bind hf
      refine ab_callS (pc2 := 174) (st := [_]) (m_J6_bitCount_0f7a4 (d := (d + 3)) ew32) mf_J6_bitCount_0f7a4 tw_202 tw_203 dX11_playSeeds_171 rfl (by omega) (Nat.le_refl _) (Nat.le_refl _) rfl (Nat.le_of_ble_eq_true rfl) (fun v u hp => ?_)
      obtain ⟨rfl, rfl⟩ := hp
      show ab_T _ _ _ _ 0 0 174 _ (.int _ :: [_]) _ _
      refine ab_iadd (pc2 := 175) dX11_playSeeds_174 rfl ?_
      refine ab_istore_n (pc2 := 176) (lo2 := [some (va_rf _), some (.int _), none, some (.int _), some (.int _), some (.int _), some (.int _), some (.int _)]) dX11_playSeeds_175 rfl (by decide) rfl ?_
      refine ab_iinc (pc2 := 179) (v := _ + 1) (lo2 := [some (va_rf _), some (.int _), none, some (.int _), some (.int _), some (.int _), some (.int _), some (.int _)]) dX11_playSeeds_176 rfl rfl rfl (by decide) rfl ?_
      refine ab_goto (tgt := 29) dX11_playSeeds_179 (by decide) ?_
      exact ab_weak (hk29 _ _ _ _ _ hf) (ab_leS (ab_leS (ab_leN (ab_leS (ab_leS (ab_leS (ab_leN (ab_leN ab_le0))))))))
    · refine ab_iload (pc2 := 75) dX11_playSeeds_73 rfl rfl ?_
      obtain ⟨w33, ew33, hf⟩ := ab_bind hf
      refine ab_callS (pc2 := 78) (st := []) (m_X11_nextSeed (d := (d + 3)) ew33) mf_X11_nextSeed tw_305 tw_306 dX11_playSeeds_75 rfl (by omega) (Nat.le_refl _) (Nat.le_refl _) rfl (Nat.le_of_ble_eq_true rfl) (fun v u hp => ?_)
      obtain ⟨rfl, rfl⟩ := hp
      show ab_T _ _ _ _ 0 0 78 _ (.int _ :: []) _ _
      refine ab_istore (pc2 := 80) (lo2 := [some (va_rf _), some (.int _), none, some (.int _), some (.int _), some (.int _), some (.int _), some (.int _)]) dX11_playSeeds_78 rfl (by decide) rfl ?_
      refine ab_aload_n (x := _) (pc2 := 81) dX11_playSeeds_80 rfl rfl ?_
      refine ab_getR (pc2 := 84) rfl ht0 fa_X11_25 dX11_playSeeds_81 rfl (fun T34 => ?_)
      refine ab_aload_n (x := _) (pc2 := 85) dX11_playSeeds_84 rfl rfl ?_
      refine ab_getR (pc2 := 88) rfl ht0 fa_X11_10 dX11_playSeeds_85 rfl (fun T35 => ?_)
      refine ab_iload (pc2 := 90) dX11_playSeeds_88 rfl rfl ?_
      refine ab_aload_n (x := _) (pc2 := 91) dX11_playSeeds_90 rfl rfl ?_
      refine ab_getR (pc2 := 94) rfl ht0 fa_X11_10 dX11_playSeeds_91 rfl (fun T36 => ?_)
      obtain ⟨q37, hq37, hf⟩ := ab_bind hf
      refine ab_getI (pc2 := 97) hq37 (T36 q37 hq37) fa_X11_207 (by decide) dX11_playSeeds_94 rfl ?_
      obtain ⟨w38, ew38, hf⟩ := ab_bind hf
      refine ab_callS (pc2 := 100) (st := [_, _]) (m_X11_drawn (d := (d + 3)) ew38) mf_X11_drawn tw_307 tw_308 dX11_playSeeds_97 rfl (by omega) (Nat.le_refl _) (Nat.le_refl _) rfl (Nat.le_of_ble_eq_true rfl) (fun v u hp => ?_)
      obtain ⟨rfl, rfl⟩ := hp
      show ab_T _ _ _ _ 0 0 100 _ (.int _ :: [_, _]) _ _
      obtain ⟨w39, ew39, hf⟩ := ab_bind hf
      refine ab_callV (pc2 := 103) (st := [_]) hq37 (T36 q37 hq37) (by decide) (m_X9_deedAt (d := (d + 3)) (T36 q37 hq37) ew39) mf_X9_deedAt tw_127 tw_18 ts_X9_deedAt (Or.inl (by decide +kernel)) dX11_playSeeds_100 rfl (by omega) (Nat.le_refl _) (Nat.le_refl _) rfl (Nat.le_of_ble_eq_true rfl) (fun v u hp => ?_)
      obtain ⟨rfl, rfl, T40⟩ := hp
      show ab_T _ _ _ _ 0 0 103 _ (va_rf _ :: [_]) _ _
      obtain ⟨q41, hq41, hf⟩ := ab_bind hf
      obtain ⟨w42, ew42, hf⟩ := ab_bind hf
      refine ab_callV (pc2 := 106) (st := []) hq41 (T34 q41 hq41) (by decide) (m_X10_add (d := (d + 3)) (T34 q41 hq41) T40 ew42) mf_X10_add tw_160 tw_159 ts_X10_add (Or.inl (by decide +kernel)) dX11_playSeeds_103 rfl (by omega) (Nat.le_refl _) (Nat.le_refl _) rfl (Nat.le_of_ble_eq_true rfl) (fun v u hp => ?_)
      obtain ⟨rfl, rfl⟩ := hp
      show ab_T _ _ _ _ 0 0 106 _ ([]) _ _
      refine ab_iinc (pc2 := 109) (v := _ + 1) (lo2 := [some (va_rf _), some (.int _), none, some (.int _), some (.int _), some (.int _), some (.int _), some (.int _)]) dX11_playSeeds_106 rfl rfl rfl (by decide) rfl ?_
      refine ab_goto (tgt := 66) dX11_playSeeds_109 (by decide) ?_
      exact ab_weak (ih _ _ _ _ _ _ _ hf) (ab_leS (ab_leS (ab_leN (ab_leS (ab_leS (ab_leS (ab_leS (ab_leS ab_le0))))))))
set_option maxHeartbeats 4000000 in
set_option maxRecDepth 100000 in
theorem x_X11_playSeeds_l29 {d : Nat} {t0 : Nat} {r : (Int32 × ab_HP)} (ht0 : (ab_shp t0).1 = 0) : ∀ (n : Nat) (i1 : Int32) (i3 : Int32) (i4 : Int32) (i5 : Int32) (h : ab_HP), f_X11_playSeeds_l29 t0 n i1 i3 i4 i5 h = some r → ab_T mX11_playSeeds (d + 4) 0 0 0 0 29 [some (va_rf (some t0)), some (.int i1), none, some (.int i3), some (.int i4), some (.int i5), none, none] [] h (ab_Pi r.1 r.2) := by
  intro n
  induction n with
  | zero =>
    intro i1 i3 i4 i5 h hf
    rw [f_X11_playSeeds_l29] at hf
    cases hf
  | succ n ih =>
    intro i1 i3 i4 i5 h hf
    rw [f_X11_playSeeds_l29] at hf
    refine ab_iload (pc2 := 31) dX11_playSeeds_29 rfl rfl ?_
    refine ab_iload_n (pc2 := 32) dX11_playSeeds_31 rfl rfl ?_
    refine ab_icmp_ge (tgt := 182) (pc2 := 35) dX11_playSeeds_32 (by decide) rfl hf (fun c8 hf => ?_) (fun c8 hf => ?_)
    · refine ab_iload_n (pc2 := 183) dX11_playSeeds_182 rfl rfl ?_
      cases Option.some.inj hf
      exact ab_retI dX11_playSeeds_183 (Or.inl rfl) (Nat.le_refl _) (Nat.le_refl _) ⟨rfl, rfl⟩
    · refine ab_aload_n (x := _) (pc2 := 36) dX11_playSeeds_35 rfl rfl ?_
      refine ab_getR (pc2 := 39) rfl ht0 fa_X11_25 dX11_playSeeds_36 rfl (fun T9 => ?_)
      refine ab_aload_n (x := _) (pc2 := 40) dX11_playSeeds_39 rfl rfl ?_
      refine ab_getR (pc2 := 43) rfl ht0 fa_X11_10 dX11_playSeeds_40 rfl (fun T10 => ?_)
      obtain ⟨q11, hq11, hf⟩ := ab_bind hf
      obtain ⟨w12, ew12, hf⟩ := ab_bind hf
      refine ab_callV (pc2 := 46) (st := []) hq11 (T9 q11 hq11) (by decide) (m_X10_open (d := (d + 3)) (T9 q11 hq11) T10 ew12) mf_X10_open tw_158 tw_157 ts_X10_open (Or.inl (by decide +kernel)) dX11_playSeeds_43 rfl (by omega) (Nat.le_refl _) (Nat.le_refl _) rfl (Nat.le_of_ble_eq_true rfl) (fun v u hp => ?_)
      obtain ⟨rfl, rfl⟩ := hp
      show ab_T _ _ _ _ 0 0 46 _ ([]) _ _
      refine ab_iload (pc2 := 48) dX11_playSeeds_46 rfl rfl ?_
      obtain ⟨w13, ew13, hf⟩ := ab_bind hf
      refine ab_callS (pc2 := 51) (st := []) (m_X11_nextSeed (d := (d + 3)) ew13) mf_X11_nextSeed tw_305 tw_306 dX11_playSeeds_48 rfl (by omega) (Nat.le_refl _) (Nat.le_refl _) rfl (Nat.le_of_ble_eq_true rfl) (fun v u hp => ?_)
      obtain ⟨rfl, rfl⟩ := hp
      show ab_T _ _ _ _ 0 0 51 _ (.int _ :: []) _ _
      refine ab_istore (pc2 := 53) (lo2 := [some (va_rf _), some (.int _), none, some (.int _), some (.int _), some (.int _), none, none]) dX11_playSeeds_51 rfl (by decide) rfl ?_
      refine ab_iconst (pc2 := 54) (v := 1) dX11_playSeeds_53 rfl ab_k_iconst_1 ?_
      refine ab_iload (pc2 := 56) dX11_playSeeds_54 rfl rfl ?_
      refine ab_iconst (pc2 := 57) (v := 4) dX11_playSeeds_56 rfl ab_k_iconst_4 ?_
      obtain ⟨w14, ew14, hf⟩ := ab_bind hf
      refine ab_callS (pc2 := 60) (st := [_]) (m_X11_drawn (d := (d + 3)) ew14) mf_X11_drawn tw_307 tw_308 dX11_playSeeds_57 rfl (by omega) (Nat.le_refl _) (Nat.le_refl _) rfl (Nat.le_of_ble_eq_true rfl) (fun v u hp => ?_)
      obtain ⟨rfl, rfl⟩ := hp
      show ab_T _ _ _ _ 0 0 60 _ (.int _ :: [_]) _ _
      refine ab_iadd (pc2 := 61) dX11_playSeeds_60 rfl ?_
      refine ab_istore (pc2 := 63) (lo2 := [some (va_rf _), some (.int _), none, some (.int _), some (.int _), some (.int _), some (.int _), none]) dX11_playSeeds_61 rfl (by decide) rfl ?_
      refine ab_iconst (pc2 := 64) (v := 0) dX11_playSeeds_63 rfl ab_k_iconst_0 ?_
      refine ab_istore (pc2 := 66) (lo2 := [some (va_rf _), some (.int _), none, some (.int _), some (.int _), some (.int _), some (.int _), some (.int _)]) dX11_playSeeds_64 rfl (by decide) rfl ?_
      exact ab_weak (x_X11_playSeeds_l66 ht0 ih _ _ _ _ _ _ _ _ hf) (ab_leS (ab_leS (ab_leN (ab_leS (ab_leS (ab_leS (ab_leS (ab_leS ab_le0))))))))
set_option maxHeartbeats 4000000 in
set_option maxRecDepth 100000 in
theorem x_X11_playSeeds {d : Nat} {t0 : Nat} {i1 : Int32} {i2 : Int32} {h : ab_HP} {r : (Int32 × ab_HP)} (ht0 : (ab_shp t0).1 = 0) (hf : f_X11_playSeeds t0 i1 i2 h = some r) : ab_T mX11_playSeeds (d + 4) 0 0 0 0 0 [some (va_rf (some t0)), some (.int i1), some (.int i2), none, none, none, none, none] [] h (ab_Pi r.1 r.2) := by
  unfold f_X11_playSeeds at hf
  refine ab_iconst (pc2 := 1) (v := 0) dX11_playSeeds_0 rfl ab_k_iconst_0 ?_
  refine ab_istore_n (pc2 := 2) (lo2 := [some (va_rf _), some (.int _), some (.int _), some (.int _), none, none, none, none]) dX11_playSeeds_1 rfl (by decide) rfl ?_
  refine ab_iload_n (pc2 := 3) dX11_playSeeds_2 rfl rfl ?_
  refine ab_istore (pc2 := 5) (lo2 := [some (va_rf _), some (.int _), some (.int _), some (.int _), some (.int _), none, none, none]) dX11_playSeeds_3 rfl (by decide) rfl ?_
  refine ab_aload_n (x := _) (pc2 := 6) dX11_playSeeds_5 rfl rfl ?_
  refine ab_getR (pc2 := 9) rfl ht0 fa_X11_25 dX11_playSeeds_6 rfl (fun T1 => ?_)
  refine ab_aload_n (x := _) (pc2 := 10) dX11_playSeeds_9 rfl rfl ?_
  refine ab_getR (pc2 := 13) rfl ht0 fa_X11_10 dX11_playSeeds_10 rfl (fun T2 => ?_)
  obtain ⟨q3, hq3, hf⟩ := ab_bind hf
  refine ab_getI (pc2 := 16) hq3 (T2 q3 hq3) fa_X11_94 (by decide) dX11_playSeeds_13 rfl ?_
  refine ab_aload_n (x := _) (pc2 := 17) dX11_playSeeds_16 rfl rfl ?_
  refine ab_getR (pc2 := 20) rfl ht0 fa_X11_10 dX11_playSeeds_17 rfl (fun T4 => ?_)
  obtain ⟨q5, hq5, hf⟩ := ab_bind hf
  refine ab_getI (pc2 := 23) hq5 (T4 q5 hq5) fa_X11_97 (by decide) dX11_playSeeds_20 rfl ?_
  obtain ⟨q6, hq6, hf⟩ := ab_bind hf
  obtain ⟨w7, ew7, hf⟩ := ab_bind hf
  refine ab_callV (pc2 := 26) (st := []) hq6 (T1 q6 hq6) (by decide) (m_X10_begin (d := (d + 3)) (T1 q6 hq6) ew7) mf_X10_begin tw_233 tw_184 ts_X10_begin (Or.inl (by decide +kernel)) dX11_playSeeds_23 rfl (by omega) (Nat.le_refl _) (Nat.le_refl _) rfl (Nat.le_of_ble_eq_true rfl) (fun v u hp => ?_)
  obtain ⟨rfl, rfl⟩ := hp
  show ab_T _ _ _ _ 0 0 26 _ ([]) _ _
  refine ab_iconst (pc2 := 27) (v := 0) dX11_playSeeds_26 rfl ab_k_iconst_0 ?_
  refine ab_istore (pc2 := 29) (lo2 := [some (va_rf _), some (.int _), some (.int _), some (.int _), some (.int _), some (.int _), none, none]) dX11_playSeeds_27 rfl (by decide) rfl ?_
  exact ab_weak (x_X11_playSeeds_l29 ht0 _ _ _ _ _ _ hf) (ab_leS (ab_leS (ab_leN (ab_leS (ab_leS (ab_leS (ab_leN (ab_leN ab_le0))))))))
set_option maxHeartbeats 4000000 in
set_option maxRecDepth 100000 in
theorem m_X11_playSeeds {d : Nat} {t0 : Nat} {i1 : Int32} {i2 : Int32} {h : ab_HP} {r : (Int32 × ab_HP)} (ht0 : (ab_shp t0).1 = 0) (hf : f_X11_playSeeds t0 i1 i2 h = some r) : ab_MET mX11_playSeeds (d + 4) 0 0 [va_rf (some t0), .int i1, .int i2] h (ab_Pi r.1 r.2) := ab_met (by decide +kernel) (by decide +kernel) (Nat.le_of_ble_eq_true rfl) rfl (x_X11_playSeeds ht0 hf)
set_option maxHeartbeats 4000000 in
set_option maxRecDepth 100000 in
theorem x_X11_seeded {d : Nat} {t0 : Nat} {i1 : Int32} {i2 : Int32} {i3 : Int32} {h : ab_HP} {r : (Int32 × ab_HP)} (ht0 : (ab_shp t0).1 = 0) (hf : f_X11_seeded t0 i1 i2 i3 h = some r) : ab_T mX11_seeded (d + 5) 0 0 0 0 0 [some (va_rf (some t0)), some (.int i1), some (.int i2), some (.int i3), none] [] h (ab_Pi r.1 r.2) := by
  unfold f_X11_seeded at hf
  refine ab_iload_n (pc2 := 1) dX11_seeded_0 rfl rfl ?_
  refine ab_iconst (pc2 := 2) (v := 1) dX11_seeded_1 rfl ab_k_iconst_1 ?_
  refine ab_icmp_lt (tgt := 20) (pc2 := 5) dX11_seeded_2 (by decide) rfl hf (fun c1 hf => ?_) (fun c1 hf => ?_)
  · refine ab_iconst (pc2 := 21) (v := (-1)) dX11_seeded_20 rfl ab_k_iconst_m1 ?_
    cases Option.some.inj hf
    exact ab_retI dX11_seeded_21 (Or.inl rfl) (Nat.le_refl _) (Nat.le_refl _) ⟨rfl, rfl⟩
  · refine ab_iload_n (pc2 := 6) dX11_seeded_5 rfl rfl ?_
    refine ab_bipush (pc2 := 8) (v := 30) dX11_seeded_6 rfl ab_k_bipush_30 ?_
    refine ab_icmp_gt (tgt := 20) (pc2 := 11) dX11_seeded_8 (by decide) rfl hf (fun c2 hf => ?_) (fun c2 hf => ?_)
    · refine ab_iconst (pc2 := 21) (v := (-1)) dX11_seeded_20 rfl ab_k_iconst_m1 ?_
      cases Option.some.inj hf
      exact ab_retI dX11_seeded_21 (Or.inl rfl) (Nat.le_refl _) (Nat.le_refl _) ⟨rfl, rfl⟩
    · refine ab_iload_n (pc2 := 12) dX11_seeded_11 rfl rfl ?_
      refine ab_if_lt (tgt := 20) (pc2 := 15) dX11_seeded_12 (by decide) rfl hf (fun c3 hf => ?_) (fun c3 hf => ?_)
      · refine ab_iconst (pc2 := 21) (v := (-1)) dX11_seeded_20 rfl ab_k_iconst_m1 ?_
        cases Option.some.inj hf
        exact ab_retI dX11_seeded_21 (Or.inl rfl) (Nat.le_refl _) (Nat.le_refl _) ⟨rfl, rfl⟩
      · refine ab_iload_n (pc2 := 16) dX11_seeded_15 rfl rfl ?_
        refine ab_iconst (pc2 := 17) (v := 2) dX11_seeded_16 rfl ab_k_iconst_2 ?_
        refine ab_icmp_le (tgt := 22) (pc2 := 20) dX11_seeded_17 (by decide) rfl hf (fun c4 hf => ?_) (fun c4 hf => ?_)
        · refine ab_aload_n (x := _) (pc2 := 23) dX11_seeded_22 rfl rfl ?_
          refine ab_getR (pc2 := 26) rfl ht0 fa_X11_10 dX11_seeded_23 rfl (fun T5 => ?_)
          obtain ⟨q6, hq6, hf⟩ := ab_bind hf
          refine ab_getI (pc2 := 29) hq6 (T5 q6 hq6) fa_X11_207 (by decide) dX11_seeded_26 rfl ?_
          refine ab_if_ne (tgt := 35) (pc2 := 32) dX11_seeded_29 (by decide) rfl hf (fun c7 hf => ?_) (fun c7 hf => ?_)
          · refine ab_aload_n (x := _) (pc2 := 36) dX11_seeded_35 rfl rfl ?_
            refine ab_iload_n (pc2 := 37) dX11_seeded_36 rfl rfl ?_
            refine ab_iload_n (pc2 := 38) dX11_seeded_37 rfl rfl ?_
            obtain ⟨w8, ew8, hf⟩ := ab_bind hf
            refine ab_callV (pc2 := 41) (st := []) rfl ht0 (by decide) (m_X11_playSeeds (d := (d + 0)) ht0 ew8) mf_X11_playSeeds tw_310 tw_309 ts_X11_playSeeds (Or.inl (by decide +kernel)) dX11_seeded_38 rfl (by omega) (Nat.le_refl _) (Nat.le_refl _) rfl (Nat.le_of_ble_eq_true rfl) (fun v u hp => ?_)
            obtain ⟨rfl, rfl⟩ := hp
            show ab_T _ _ _ _ 0 0 41 _ (.int _ :: []) _ _
            refine ab_istore (pc2 := 43) (lo2 := [some (va_rf _), some (.int _), some (.int _), some (.int _), some (.int _)]) dX11_seeded_41 rfl (by decide) rfl ?_
            refine ab_iload_n (pc2 := 44) dX11_seeded_43 rfl rfl ?_
            refine ab_if_ne (tgt := 57) (pc2 := 47) dX11_seeded_44 (by decide) rfl hf (fun c9 hf => ?_) (fun c9 hf => ?_)
            · refine ab_iload_n (pc2 := 58) dX11_seeded_57 rfl rfl ?_
              refine ab_iconst (pc2 := 59) (v := 1) dX11_seeded_58 rfl ab_k_iconst_1 ?_
              refine ab_icmp_ne (tgt := 72) (pc2 := 62) dX11_seeded_59 (by decide) rfl hf (fun c10 hf => ?_) (fun c10 hf => ?_)
              · refine ab_iload (pc2 := 74) dX11_seeded_72 rfl rfl ?_
                cases Option.some.inj hf
                exact ab_retI dX11_seeded_74 (Or.inl rfl) (Nat.le_refl _) (Nat.le_refl _) ⟨rfl, rfl⟩
              · refine ab_aload_n (x := _) (pc2 := 63) dX11_seeded_62 rfl rfl ?_
                refine ab_getR (pc2 := 66) rfl ht0 fa_X11_25 dX11_seeded_63 rfl (fun T11 => ?_)
                obtain ⟨q12, hq12, hf⟩ := ab_bind hf
                refine ab_getI (pc2 := 69) hq12 (T11 q12 hq12) fa_X11_162 (by decide) dX11_seeded_66 rfl ?_
                refine ab_goto (tgt := 74) dX11_seeded_69 (by decide) ?_
                cases Option.some.inj hf
                exact ab_retI dX11_seeded_74 (Or.inl rfl) (Nat.le_refl _) (Nat.le_refl _) ⟨rfl, rfl⟩
            · refine ab_aload_n (x := _) (pc2 := 48) dX11_seeded_47 rfl rfl ?_
              refine ab_getR (pc2 := 51) rfl ht0 fa_X11_25 dX11_seeded_48 rfl (fun T13 => ?_)
              obtain ⟨q14, hq14, hf⟩ := ab_bind hf
              refine ab_getI (pc2 := 54) hq14 (T13 q14 hq14) fa_X11_155 (by decide) dX11_seeded_51 rfl ?_
              refine ab_goto (tgt := 74) dX11_seeded_54 (by decide) ?_
              cases Option.some.inj hf
              exact ab_retI dX11_seeded_74 (Or.inl rfl) (Nat.le_refl _) (Nat.le_refl _) ⟨rfl, rfl⟩
          · refine ab_bipush (pc2 := 34) (v := (-3)) dX11_seeded_32 rfl ab_k_bipush_m3 ?_
            cases Option.some.inj hf
            exact ab_retI dX11_seeded_34 (Or.inl rfl) (Nat.le_refl _) (Nat.le_refl _) ⟨rfl, rfl⟩
        · refine ab_iconst (pc2 := 21) (v := (-1)) dX11_seeded_20 rfl ab_k_iconst_m1 ?_
          cases Option.some.inj hf
          exact ab_retI dX11_seeded_21 (Or.inl rfl) (Nat.le_refl _) (Nat.le_refl _) ⟨rfl, rfl⟩
set_option maxHeartbeats 4000000 in
set_option maxRecDepth 100000 in
theorem m_X11_seeded {d : Nat} {t0 : Nat} {i1 : Int32} {i2 : Int32} {i3 : Int32} {h : ab_HP} {r : (Int32 × ab_HP)} (ht0 : (ab_shp t0).1 = 0) (hf : f_X11_seeded t0 i1 i2 i3 h = some r) : ab_MET mX11_seeded (d + 5) 0 0 [va_rf (some t0), .int i1, .int i2, .int i3] h (ab_Pi r.1 r.2) := ab_met (by decide +kernel) (by decide +kernel) (Nat.le_of_ble_eq_true rfl) rfl (x_X11_seeded ht0 hf)
set_option maxHeartbeats 4000000 in
set_option maxRecDepth 100000 in
theorem x_X11_firstWrong_b102 {d : Nat} {k23 : Option Nat → Int32 → Int32 → ab_HP → Option (Int32 × ab_HP)} {t0 : Nat} {i1 : Option Nat} {i2 : Int32} {i3 : Int32} {h : ab_HP} {r : (Int32 × ab_HP)} (ht0 : (ab_shp t0).1 = 0) (hk23 : ∀ (i1 : Option Nat) (i2 : Int32) (i3 : Int32) (h : ab_HP), (∀ z, i1 = some z → (ab_shp z).1 = 3) → k23 i1 i2 i3 h = some r → ab_T mX11_firstWrong (d + 4) 0 0 0 0 23 [some (va_rf (some t0)), some (va_rf i1), some (.int i2), some (.int i3), none] [] h (ab_Pi r.1 r.2)) (T_i1 : ∀ z, i1 = some z → (ab_shp z).1 = 3) (hf : f_X11_firstWrong_b102 k23 t0 i1 i2 i3 h = some r) : ab_T mX11_firstWrong (d + 4) 0 0 0 0 102 [some (va_rf (some t0)), some (va_rf i1), some (.int i2), some (.int i3), none] [] h (ab_Pi r.1 r.2) := by
  unfold f_X11_firstWrong_b102 at hf
  refine ab_iconst (pc2 := 103) (v := 0) dX11_firstWrong_102 rfl ab_k_iconst_0 ?_
  refine ab_istore (pc2 := 105) (lo2 := [some (va_rf _), some (va_rf _), some (.int _), some (.int _), some (.int _)]) dX11_firstWrong_103 rfl (by decide) rfl ?_
  refine ab_iload (pc2 := 107) dX11_firstWrong_105 rfl rfl ?_
  refine ab_if_ne (tgt := 124) (pc2 := 110) dX11_firstWrong_107 (by decide) rfl hf (fun c34 hf => ?_) (fun c34 hf => ?_)
  · refine ab_iinc (pc2 := 127) (v := _ + 1) (lo2 := [some (va_rf _), some (va_rf _), some (.int _), some (.int _), some (.int _)]) dX11_firstWrong_124 rfl rfl rfl (by decide) rfl ?_
    refine ab_goto (tgt := 23) dX11_firstWrong_127 (by decide) ?_
    exact ab_weak (hk23 _ _ _ _ T_i1 hf) (ab_leS (ab_leS (ab_leS (ab_leS (ab_leN ab_le0)))))
  · refine ab_aload_n (x := _) (pc2 := 111) dX11_firstWrong_110 rfl rfl ?_
    refine ab_iload_n (pc2 := 112) dX11_firstWrong_111 rfl rfl ?_
    obtain ⟨q35, hq35, hf⟩ := ab_bind hf
    obtain ⟨w36, ew36, hf⟩ := ab_bind hf
    refine ab_callV (pc2 := 115) (st := []) hq35 (T_i1 q35 hq35) (by decide) (m_X6_read (d := (d + 2)) (T_i1 q35 hq35) ew36) mf_X6_read tw_154 tw_24 ts_X6_read (Or.inl (by decide +kernel)) dX11_firstWrong_112 rfl (by omega) (Nat.le_refl _) (Nat.le_refl _) rfl (Nat.le_of_ble_eq_true rfl) (fun v u hp => ?_)
    obtain ⟨rfl, rfl⟩ := hp
    show ab_T _ _ _ _ 0 0 115 _ (.int _ :: []) _ _
    refine ab_aload_n (x := _) (pc2 := 116) dX11_firstWrong_115 rfl rfl ?_
    obtain ⟨w37, ew37, hf⟩ := ab_bind hf
    refine ab_callV (pc2 := 119) (st := [_]) hq35 (T_i1 q35 hq35) (by decide) (m_X6_leastNumber (d := (d + 3)) (T_i1 q35 hq35) ew37) mf_X6_leastNumber tw_319 tw_318 ts_X6_leastNumber (Or.inl (by decide +kernel)) dX11_firstWrong_116 rfl (by omega) (Nat.le_refl _) (Nat.le_refl _) rfl (Nat.le_of_ble_eq_true rfl) (fun v u hp => ?_)
    obtain ⟨rfl, rfl⟩ := hp
    show ab_T _ _ _ _ 0 0 119 _ (.int _ :: [_]) _ _
    refine ab_icmp_eq (tgt := 124) (pc2 := 122) dX11_firstWrong_119 (by decide) rfl hf (fun c38 hf => ?_) (fun c38 hf => ?_)
    · refine ab_iinc (pc2 := 127) (v := _ + 1) (lo2 := [some (va_rf _), some (va_rf _), some (.int _), some (.int _), some (.int _)]) dX11_firstWrong_124 rfl rfl rfl (by decide) rfl ?_
      refine ab_goto (tgt := 23) dX11_firstWrong_127 (by decide) ?_
      exact ab_weak (hk23 _ _ _ _ T_i1 hf) (ab_leS (ab_leS (ab_leS (ab_leS (ab_leN ab_le0)))))
    · refine ab_iload_n (pc2 := 123) dX11_firstWrong_122 rfl rfl ?_
      cases Option.some.inj hf
      exact ab_retI dX11_firstWrong_123 (Or.inl rfl) (Nat.le_refl _) (Nat.le_refl _) ⟨rfl, rfl⟩
set_option maxHeartbeats 4000000 in
set_option maxRecDepth 100000 in
theorem x_X11_firstWrong_b72 {d : Nat} {k23 : Option Nat → Int32 → Int32 → ab_HP → Option (Int32 × ab_HP)} {t0 : Nat} {i1 : Option Nat} {i2 : Int32} {i3 : Int32} {h : ab_HP} {r : (Int32 × ab_HP)} (ht0 : (ab_shp t0).1 = 0) (hk23 : ∀ (i1 : Option Nat) (i2 : Int32) (i3 : Int32) (h : ab_HP), (∀ z, i1 = some z → (ab_shp z).1 = 3) → k23 i1 i2 i3 h = some r → ab_T mX11_firstWrong (d + 4) 0 0 0 0 23 [some (va_rf (some t0)), some (va_rf i1), some (.int i2), some (.int i3), none] [] h (ab_Pi r.1 r.2)) (T_i1 : ∀ z, i1 = some z → (ab_shp z).1 = 3) (hf : f_X11_firstWrong_b72 k23 t0 i1 i2 i3 h = some r) : ab_T mX11_firstWrong (d + 4) 0 0 0 0 72 [some (va_rf (some t0)), some (va_rf i1), some (.int i2), some (.int i3), none] [] h (ab_Pi r.1 r.2) := by
  unfold f_X11_firstWrong_b72 at hf
  refine ab_iload_n (pc2 := 73) dX11_firstWrong_72 rfl rfl ?_
  refine ab_aload_n (x := _) (pc2 := 74) dX11_firstWrong_73 rfl rfl ?_
  refine ab_getR (pc2 := 77) rfl ht0 fa_X11_25 dX11_firstWrong_74 rfl (fun T22 => ?_)
  obtain ⟨q23, hq23, hf⟩ := ab_bind hf
  refine ab_getI (pc2 := 80) hq23 (T22 q23 hq23) fa_X11_156 (by decide) dX11_firstWrong_77 rfl ?_
  refine ab_icmp_gt (tgt := 102) (pc2 := 83) dX11_firstWrong_80 (by decide) rfl hf (fun c24 hf => ?_) (fun c24 hf => ?_)
  · exact ab_weak (x_X11_firstWrong_b102 ht0 hk23 T_i1 hf) (ab_leS (ab_leS (ab_leS (ab_leS (ab_leN ab_le0)))))
  · refine ab_aload_n (x := _) (pc2 := 84) dX11_firstWrong_83 rfl rfl ?_
    refine ab_iload_n (pc2 := 85) dX11_firstWrong_84 rfl rfl ?_
    obtain ⟨q25, hq25, hf⟩ := ab_bind hf
    obtain ⟨w26, ew26, hf⟩ := ab_bind hf
    refine ab_callV (pc2 := 88) (st := []) hq25 (T_i1 q25 hq25) (by decide) (m_X6_read (d := (d + 2)) (T_i1 q25 hq25) ew26) mf_X6_read tw_154 tw_24 ts_X6_read (Or.inl (by decide +kernel)) dX11_firstWrong_85 rfl (by omega) (Nat.le_refl _) (Nat.le_refl _) rfl (Nat.le_of_ble_eq_true rfl) (fun v u hp => ?_)
    obtain ⟨rfl, rfl⟩ := hp
    show ab_T _ _ _ _ 0 0 88 _ (.int _ :: []) _ _
    refine ab_aload_n (x := _) (pc2 := 89) dX11_firstWrong_88 rfl rfl ?_
    refine ab_getR (pc2 := 92) rfl ht0 fa_X11_25 dX11_firstWrong_89 rfl (fun T27 => ?_)
    obtain ⟨q28, hq28, hf⟩ := ab_bind hf
    refine ab_getI (pc2 := 95) hq28 (T27 q28 hq28) fa_X11_155 (by decide) dX11_firstWrong_92 rfl ?_
    refine ab_icmp_ne (tgt := 102) (pc2 := 98) dX11_firstWrong_95 (by decide) rfl hf (fun c29 hf => ?_) (fun c29 hf => ?_)
    · exact ab_weak (x_X11_firstWrong_b102 ht0 hk23 T_i1 hf) (ab_leS (ab_leS (ab_leS (ab_leS (ab_leN ab_le0)))))
    · refine ab_iconst (pc2 := 99) (v := 1) dX11_firstWrong_98 rfl ab_k_iconst_1 ?_
      refine ab_goto (tgt := 103) dX11_firstWrong_99 (by decide) ?_
      refine ab_istore (pc2 := 105) (lo2 := [some (va_rf _), some (va_rf _), some (.int _), some (.int _), some (.int _)]) dX11_firstWrong_103 rfl (by decide) rfl ?_
      refine ab_iload (pc2 := 107) dX11_firstWrong_105 rfl rfl ?_
      refine ab_if_ne (tgt := 124) (pc2 := 110) dX11_firstWrong_107 (by decide) rfl hf (fun c30 hf => ?_) (fun c30 hf => ?_)
      · refine ab_iinc (pc2 := 127) (v := _ + 1) (lo2 := [some (va_rf _), some (va_rf _), some (.int _), some (.int _), some (.int _)]) dX11_firstWrong_124 rfl rfl rfl (by decide) rfl ?_
        refine ab_goto (tgt := 23) dX11_firstWrong_127 (by decide) ?_
        exact ab_weak (hk23 _ _ _ _ T_i1 hf) (ab_leS (ab_leS (ab_leS (ab_leS (ab_leN ab_le0)))))
      · refine ab_aload_n (x := _) (pc2 := 111) dX11_firstWrong_110 rfl rfl ?_
        refine ab_iload_n (pc2 := 112) dX11_firstWrong_111 rfl rfl ?_
        obtain ⟨w31, ew31, hf⟩ := ab_bind hf
        refine ab_callV (pc2 := 115) (st := []) hq25 (T_i1 q25 hq25) (by decide) (m_X6_read (d := (d + 2)) (T_i1 q25 hq25) ew31) mf_X6_read tw_154 tw_24 ts_X6_read (Or.inl (by decide +kernel)) dX11_firstWrong_112 rfl (by omega) (Nat.le_refl _) (Nat.le_refl _) rfl (Nat.le_of_ble_eq_true rfl) (fun v u hp => ?_)
        obtain ⟨rfl, rfl⟩ := hp
        show ab_T _ _ _ _ 0 0 115 _ (.int _ :: []) _ _
        refine ab_aload_n (x := _) (pc2 := 116) dX11_firstWrong_115 rfl rfl ?_
        obtain ⟨w32, ew32, hf⟩ := ab_bind hf
        refine ab_callV (pc2 := 119) (st := [_]) hq25 (T_i1 q25 hq25) (by decide) (m_X6_leastNumber (d := (d + 3)) (T_i1 q25 hq25) ew32) mf_X6_leastNumber tw_319 tw_318 ts_X6_leastNumber (Or.inl (by decide +kernel)) dX11_firstWrong_116 rfl (by omega) (Nat.le_refl _) (Nat.le_refl _) rfl (Nat.le_of_ble_eq_true rfl) (fun v u hp => ?_)
        obtain ⟨rfl, rfl⟩ := hp
        show ab_T _ _ _ _ 0 0 119 _ (.int _ :: [_]) _ _
        refine ab_icmp_eq (tgt := 124) (pc2 := 122) dX11_firstWrong_119 (by decide) rfl hf (fun c33 hf => ?_) (fun c33 hf => ?_)
        · refine ab_iinc (pc2 := 127) (v := _ + 1) (lo2 := [some (va_rf _), some (va_rf _), some (.int _), some (.int _), some (.int _)]) dX11_firstWrong_124 rfl rfl rfl (by decide) rfl ?_
          refine ab_goto (tgt := 23) dX11_firstWrong_127 (by decide) ?_
          exact ab_weak (hk23 _ _ _ _ T_i1 hf) (ab_leS (ab_leS (ab_leS (ab_leS (ab_leN ab_le0)))))
        · refine ab_iload_n (pc2 := 123) dX11_firstWrong_122 rfl rfl ?_
          cases Option.some.inj hf
          exact ab_retI dX11_firstWrong_123 (Or.inl rfl) (Nat.le_refl _) (Nat.le_refl _) ⟨rfl, rfl⟩
set_option maxHeartbeats 4000000 in
set_option maxRecDepth 100000 in
theorem x_X11_firstWrong_l23 {d : Nat} {t0 : Nat} {r : (Int32 × ab_HP)} (ht0 : (ab_shp t0).1 = 0) : ∀ (n : Nat) (i1 : Option Nat) (i2 : Int32) (i3 : Int32) (h : ab_HP), (∀ z, i1 = some z → (ab_shp z).1 = 3) → f_X11_firstWrong_l23 t0 n i1 i2 i3 h = some r → ab_T mX11_firstWrong (d + 4) 0 0 0 0 23 [some (va_rf (some t0)), some (va_rf i1), some (.int i2), some (.int i3), none] [] h (ab_Pi r.1 r.2) := by
  intro n
  induction n with
  | zero =>
    intro i1 i2 i3 h T_i1 hf
    rw [f_X11_firstWrong_l23] at hf
    cases hf
  | succ n ih =>
    intro i1 i2 i3 h T_i1 hf
    rw [f_X11_firstWrong_l23] at hf
    refine ab_iload_n (pc2 := 24) dX11_firstWrong_23 rfl rfl ?_
    refine ab_aload_n (x := _) (pc2 := 25) dX11_firstWrong_24 rfl rfl ?_
    obtain ⟨q8, hq8, hf⟩ := ab_bind hf
    refine ab_getI (pc2 := 28) hq8 (T_i1 q8 hq8) fa_X11_182 (by decide) dX11_firstWrong_25 rfl ?_
    refine ab_icmp_ge (tgt := 130) (pc2 := 31) dX11_firstWrong_28 (by decide) rfl hf (fun c9 hf => ?_) (fun c9 hf => ?_)
    · refine ab_bipush (pc2 := 132) (v := (-4)) dX11_firstWrong_130 rfl ab_k_bipush_m4 ?_
      cases Option.some.inj hf
      exact ab_retI dX11_firstWrong_132 (Or.inl rfl) (Nat.le_refl _) (Nat.le_refl _) ⟨rfl, rfl⟩
    · refine ab_iload_n (pc2 := 32) dX11_firstWrong_31 rfl rfl ?_
      refine ab_aload_n (x := _) (pc2 := 33) dX11_firstWrong_32 rfl rfl ?_
      refine ab_getR (pc2 := 36) rfl ht0 fa_X11_25 dX11_firstWrong_33 rfl (fun T10 => ?_)
      obtain ⟨q11, hq11, hf⟩ := ab_bind hf
      refine ab_getI (pc2 := 39) hq11 (T10 q11 hq11) fa_X11_156 (by decide) dX11_firstWrong_36 rfl ?_
      refine ab_icmp_ge (tgt := 54) (pc2 := 42) dX11_firstWrong_39 (by decide) rfl hf (fun c12 hf => ?_) (fun c12 hf => ?_)
      · refine ab_iload_n (pc2 := 55) dX11_firstWrong_54 rfl rfl ?_
        refine ab_aload_n (x := _) (pc2 := 56) dX11_firstWrong_55 rfl rfl ?_
        refine ab_getR (pc2 := 59) rfl ht0 fa_X11_25 dX11_firstWrong_56 rfl (fun T13 => ?_)
        obtain ⟨q14, hq14, hf⟩ := ab_bind hf
        refine ab_getI (pc2 := 62) hq14 (T13 q14 hq14) fa_X11_156 (by decide) dX11_firstWrong_59 rfl ?_
        refine ab_icmp_ne (tgt := 72) (pc2 := 65) dX11_firstWrong_62 (by decide) rfl hf (fun c15 hf => ?_) (fun c15 hf => ?_)
        · exact ab_weak (x_X11_firstWrong_b72 ht0 ih T_i1 hf) (ab_leS (ab_leS (ab_leS (ab_leS (ab_leN ab_le0)))))
        · refine ab_aload_n (x := _) (pc2 := 66) dX11_firstWrong_65 rfl rfl ?_
          refine ab_getR (pc2 := 69) rfl ht0 fa_X11_25 dX11_firstWrong_66 rfl (fun T16 => ?_)
          obtain ⟨q17, hq17, hf⟩ := ab_bind hf
          obtain ⟨w18, ew18, hf⟩ := ab_bind hf
          refine ab_callV (pc2 := 72) (st := []) hq17 (T16 q17 hq17) (by decide) (m_X10_oddYear (d := (d + 0)) (T16 q17 hq17) ew18) mf_X10_oddYear tw_267 tw_188 ts_X10_oddYear (Or.inl (by decide +kernel)) dX11_firstWrong_69 rfl (by omega) (Nat.le_refl _) (Nat.le_refl _) rfl (Nat.le_of_ble_eq_true rfl) (fun v u hp => ?_)
          obtain ⟨rfl, rfl⟩ := hp
          show ab_T _ _ _ _ 0 0 72 _ ([]) _ _
          exact ab_weak (x_X11_firstWrong_b72 ht0 ih T_i1 hf) (ab_leS (ab_leS (ab_leS (ab_leS (ab_leN ab_le0)))))
      · refine ab_aload_n (x := _) (pc2 := 43) dX11_firstWrong_42 rfl rfl ?_
        refine ab_getR (pc2 := 46) rfl ht0 fa_X11_25 dX11_firstWrong_43 rfl (fun T19 => ?_)
        refine ab_iload_n (pc2 := 47) dX11_firstWrong_46 rfl rfl ?_
        refine ab_iload_n (pc2 := 48) dX11_firstWrong_47 rfl rfl ?_
        obtain ⟨q20, hq20, hf⟩ := ab_bind hf
        obtain ⟨w21, ew21, hf⟩ := ab_bind hf
        refine ab_callV (pc2 := 51) (st := []) hq20 (T19 q20 hq20) (by decide) (m_X10_evenPlace (d := (d + 1)) (T19 q20 hq20) ew21) mf_X10_evenPlace tw_317 tw_174 ts_X10_evenPlace (Or.inl (by decide +kernel)) dX11_firstWrong_48 rfl (by omega) (Nat.le_refl _) (Nat.le_refl _) rfl (Nat.le_of_ble_eq_true rfl) (fun v u hp => ?_)
        obtain ⟨rfl, rfl⟩ := hp
        show ab_T _ _ _ _ 0 0 51 _ ([]) _ _
        refine ab_goto (tgt := 72) dX11_firstWrong_51 (by decide) ?_
        exact ab_weak (x_X11_firstWrong_b72 ht0 ih T_i1 hf) (ab_leS (ab_leS (ab_leS (ab_leS (ab_leN ab_le0)))))
set_option maxHeartbeats 4000000 in
set_option maxRecDepth 100000 in
theorem x_X11_firstWrong {d : Nat} {t0 : Nat} {i1 : Option Nat} {i2 : Int32} {h : ab_HP} {r : (Int32 × ab_HP)} (ht0 : (ab_shp t0).1 = 0) (T_i1 : ∀ z, i1 = some z → (ab_shp z).1 = 3) (hf : f_X11_firstWrong t0 i1 i2 h = some r) : ab_T mX11_firstWrong (d + 4) 0 0 0 0 0 [some (va_rf (some t0)), some (va_rf i1), some (.int i2), none, none] [] h (ab_Pi r.1 r.2) := by
  unfold f_X11_firstWrong at hf
  refine ab_aload_n (x := _) (pc2 := 1) dX11_firstWrong_0 rfl rfl ?_
  refine ab_getR (pc2 := 4) rfl ht0 fa_X11_25 dX11_firstWrong_1 rfl (fun T1 => ?_)
  refine ab_aload_n (x := _) (pc2 := 5) dX11_firstWrong_4 rfl rfl ?_
  refine ab_getR (pc2 := 8) rfl ht0 fa_X11_10 dX11_firstWrong_5 rfl (fun T2 => ?_)
  obtain ⟨q3, hq3, hf⟩ := ab_bind hf
  refine ab_getI (pc2 := 11) hq3 (T2 q3 hq3) fa_X11_94 (by decide) dX11_firstWrong_8 rfl ?_
  refine ab_aload_n (x := _) (pc2 := 12) dX11_firstWrong_11 rfl rfl ?_
  refine ab_getR (pc2 := 15) rfl ht0 fa_X11_10 dX11_firstWrong_12 rfl (fun T4 => ?_)
  obtain ⟨q5, hq5, hf⟩ := ab_bind hf
  refine ab_getI (pc2 := 18) hq5 (T4 q5 hq5) fa_X11_97 (by decide) dX11_firstWrong_15 rfl ?_
  obtain ⟨q6, hq6, hf⟩ := ab_bind hf
  obtain ⟨w7, ew7, hf⟩ := ab_bind hf
  refine ab_callV (pc2 := 21) (st := []) hq6 (T1 q6 hq6) (by decide) (m_X10_begin (d := (d + 3)) (T1 q6 hq6) ew7) mf_X10_begin tw_233 tw_184 ts_X10_begin (Or.inl (by decide +kernel)) dX11_firstWrong_18 rfl (by omega) (Nat.le_refl _) (Nat.le_refl _) rfl (Nat.le_of_ble_eq_true rfl) (fun v u hp => ?_)
  obtain ⟨rfl, rfl⟩ := hp
  show ab_T _ _ _ _ 0 0 21 _ ([]) _ _
  refine ab_iconst (pc2 := 22) (v := 0) dX11_firstWrong_21 rfl ab_k_iconst_0 ?_
  refine ab_istore_n (pc2 := 23) (lo2 := [some (va_rf _), some (va_rf _), some (.int _), some (.int _), none]) dX11_firstWrong_22 rfl (by decide) rfl ?_
  exact ab_weak (x_X11_firstWrong_l23 ht0 _ _ _ _ _ T_i1 hf) (ab_leS (ab_leS (ab_leS (ab_leS (ab_leN ab_le0)))))
set_option maxHeartbeats 4000000 in
set_option maxRecDepth 100000 in
theorem m_X11_firstWrong {d : Nat} {t0 : Nat} {i1 : Option Nat} {i2 : Int32} {h : ab_HP} {r : (Int32 × ab_HP)} (ht0 : (ab_shp t0).1 = 0) (T_i1 : ∀ z, i1 = some z → (ab_shp z).1 = 3) (hf : f_X11_firstWrong t0 i1 i2 h = some r) : ab_MET mX11_firstWrong (d + 4) 0 0 [va_rf (some t0), va_rf i1, .int i2] h (ab_Pi r.1 r.2) := ab_met (by decide +kernel) (by decide +kernel) (by simp [ab_lo, ab_rf1, Value.category]) (by simp [ab_lo0, ab_lo, ab_rf1, Value.category, List.replicate]) (x_X11_firstWrong ht0 T_i1 hf)
set_option maxHeartbeats 4000000 in
set_option maxRecDepth 100000 in
theorem x_X11_judge_b40 {d : Nat} {t0 : Nat} {i2 : Int32} {i4 : Option Nat} {i5 : Int32} {h : ab_HP} {r : (Int32 × ab_HP)} (ht0 : (ab_shp t0).1 = 0) (T_i4 : ∀ z, i4 = some z → (ab_shp z).1 = 3) (hf : f_X11_judge_b40 t0 i2 i4 i5 h = some r) : ab_T mX11_judge (d + 5) 0 0 0 0 40 [some (va_rf (some t0)), none, some (.int i2), none, some (va_rf i4), some (.int i5)] [] h (ab_Pi r.1 r.2) := by
  unfold f_X11_judge_b40 at hf
  refine ab_iload (pc2 := 42) dX11_judge_40 rfl rfl ?_
  refine ab_if_eq (tgt := 50) (pc2 := 45) dX11_judge_42 (by decide) rfl hf (fun c10 hf => ?_) (fun c10 hf => ?_)
  · refine ab_aload_n (x := _) (pc2 := 51) dX11_judge_50 rfl rfl ?_
    refine ab_aload (x := _) (pc2 := 53) dX11_judge_51 rfl rfl ?_
    refine ab_iload_n (pc2 := 54) dX11_judge_53 rfl rfl ?_
    obtain ⟨w11, ew11, hf⟩ := ab_bind hf
    refine ab_callV (pc2 := 57) (st := []) rfl ht0 (by decide) (m_X11_firstWrong (d := (d + 0)) ht0 T_i4 ew11) mf_X11_firstWrong tw_321 tw_320 ts_X11_firstWrong (Or.inl (by decide +kernel)) dX11_judge_54 rfl (by omega) (Nat.le_refl _) (Nat.le_refl _) rfl (Nat.le_of_ble_eq_true rfl) (fun v u hp => ?_)
    obtain ⟨rfl, rfl⟩ := hp
    show ab_T _ _ _ _ 0 0 57 _ (.int _ :: []) _ _
    cases Option.some.inj hf
    exact ab_retI dX11_judge_57 (Or.inl rfl) (Nat.le_refl _) (Nat.le_refl _) ⟨rfl, rfl⟩
  · refine ab_iload (pc2 := 47) dX11_judge_45 rfl rfl ?_
    refine ab_goto (tgt := 57) dX11_judge_47 (by decide) ?_
    cases Option.some.inj hf
    exact ab_retI dX11_judge_57 (Or.inl rfl) (Nat.le_refl _) (Nat.le_refl _) ⟨rfl, rfl⟩
set_option maxHeartbeats 4000000 in
set_option maxRecDepth 100000 in
theorem x_X11_judge {d : Nat} {t0 : Nat} {i1 : Int32} {i2 : Int32} {i3 : Int32} {h : ab_HP} {r : (Int32 × ab_HP)} (ht0 : (ab_shp t0).1 = 0) (hf : f_X11_judge t0 i1 i2 i3 h = some r) : ab_T mX11_judge (d + 5) 0 0 0 0 0 [some (va_rf (some t0)), some (.int i1), some (.int i2), some (.int i3), none, none] [] h (ab_Pi r.1 r.2) := by
  unfold f_X11_judge at hf
  refine ab_aload_n (x := _) (pc2 := 1) dX11_judge_0 rfl rfl ?_
  refine ab_iload_n (pc2 := 2) dX11_judge_1 rfl rfl ?_
  obtain ⟨w1, ew1, hf⟩ := ab_bind hf
  refine ab_callV (pc2 := 5) (st := []) rfl ht0 (by decide) (m_X11_shelfAt (d := (d + 4)) ht0 ew1) mf_X11_shelfAt tw_93 tw_92 ts_X11_shelfAt (Or.inl (by decide +kernel)) dX11_judge_2 rfl (by omega) (Nat.le_refl _) (Nat.le_refl _) rfl (Nat.le_of_ble_eq_true rfl) (fun v u hp => ?_)
  obtain ⟨rfl, rfl, T2⟩ := hp
  show ab_T _ _ _ _ 0 0 5 _ (va_rf _ :: []) _ _
  refine ab_astore (pc2 := 7) (lo2 := [some (va_rf _), some (.int _), some (.int _), some (.int _), some (va_rf _), none]) dX11_judge_5 rfl (by decide) rfl ?_
  refine ab_aload (x := _) (pc2 := 9) dX11_judge_7 rfl rfl ?_
  refine ab_nul (tgt := 19) (pc2 := 12) dX11_judge_9 (by decide) rfl hf (fun hq3 hf => ?_) (fun q3 hq3 hf => ?_)
  · refine ab_iconst (pc2 := 20) (v := (-1)) dX11_judge_19 rfl ab_k_iconst_m1 ?_
    cases Option.some.inj hf
    exact ab_retI dX11_judge_20 (Or.inl rfl) (Nat.le_refl _) (Nat.le_refl _) ⟨rfl, rfl⟩
  · refine ab_iload_n (pc2 := 13) dX11_judge_12 rfl rfl ?_
    obtain ⟨w4, ew4, hf⟩ := ab_bind hf
    refine ab_callS (pc2 := 16) (st := []) (m_X11_areNails (d := (d + 4)) ew4) mf_X11_areNails tw_190 tw_191 dX11_judge_13 rfl (by omega) (Nat.le_refl _) (Nat.le_refl _) rfl (Nat.le_of_ble_eq_true rfl) (fun v u hp => ?_)
    obtain ⟨rfl, rfl, z5⟩ := hp
    show ab_T _ _ _ _ 0 0 16 _ (.int _ :: []) _ _
    refine ab_if_ne (tgt := 21) (pc2 := 19) dX11_judge_16 (by decide) rfl hf (fun c6 hf => ?_) (fun c6 hf => ?_)
    · refine ab_aload_n (x := _) (pc2 := 22) dX11_judge_21 rfl rfl ?_
      refine ab_iload_n (pc2 := 23) dX11_judge_22 rfl rfl ?_
      obtain ⟨w7, ew7, hf⟩ := ab_bind hf
      refine ab_callV (pc2 := 26) (st := []) rfl ht0 (by decide) (m_X11_takeList (d := (d + 1)) ht0 ew7) mf_X11_takeList tw_193 tw_192 ts_X11_takeList (Or.inl (by decide +kernel)) dX11_judge_23 rfl (by omega) (Nat.le_refl _) (Nat.le_refl _) rfl (Nat.le_of_ble_eq_true rfl) (fun v u hp => ?_)
      obtain ⟨rfl, rfl⟩ := hp
      show ab_T _ _ _ _ 0 0 26 _ (.int _ :: []) _ _
      refine ab_istore (pc2 := 28) (lo2 := [some (va_rf _), some (.int _), some (.int _), some (.int _), some (va_rf _), some (.int _)]) dX11_judge_26 rfl (by decide) rfl ?_
      refine ab_iload (pc2 := 30) dX11_judge_28 rfl rfl ?_
      refine ab_if_ne (tgt := 40) (pc2 := 33) dX11_judge_30 (by decide) rfl hf (fun c8 hf => ?_) (fun c8 hf => ?_)
      · exact ab_weak (x_X11_judge_b40 ht0 T2 hf) (ab_leS (ab_leN (ab_leS (ab_leN (ab_leS (ab_leS ab_le0))))))
      · refine ab_aload (x := _) (pc2 := 35) dX11_judge_33 rfl rfl ?_
        obtain ⟨w9, ew9, hf⟩ := ab_bind hf
        refine ab_callV (pc2 := 38) (st := []) hq3 (T2 q3 hq3) (by decide) (m_X6_rowRefusal (d := (d + 3)) (T2 q3 hq3) ew9) mf_X6_rowRefusal tw_279 tw_278 ts_X6_rowRefusal (Or.inl (by decide +kernel)) dX11_judge_35 rfl (by omega) (Nat.le_refl _) (Nat.le_refl _) rfl (Nat.le_of_ble_eq_true rfl) (fun v u hp => ?_)
        obtain ⟨rfl, rfl⟩ := hp
        show ab_T _ _ _ _ 0 0 38 _ (.int _ :: []) _ _
        refine ab_istore (pc2 := 40) (lo2 := [some (va_rf _), some (.int _), some (.int _), some (.int _), some (va_rf _), some (.int _)]) dX11_judge_38 rfl (by decide) rfl ?_
        exact ab_weak (x_X11_judge_b40 ht0 T2 hf) (ab_leS (ab_leN (ab_leS (ab_leN (ab_leS (ab_leS ab_le0))))))
    · refine ab_iconst (pc2 := 20) (v := (-1)) dX11_judge_19 rfl ab_k_iconst_m1 ?_
      cases Option.some.inj hf
      exact ab_retI dX11_judge_20 (Or.inl rfl) (Nat.le_refl _) (Nat.le_refl _) ⟨rfl, rfl⟩
set_option maxHeartbeats 4000000 in
set_option maxRecDepth 100000 in
theorem m_X11_judge {d : Nat} {t0 : Nat} {i1 : Int32} {i2 : Int32} {i3 : Int32} {h : ab_HP} {r : (Int32 × ab_HP)} (ht0 : (ab_shp t0).1 = 0) (hf : f_X11_judge t0 i1 i2 i3 h = some r) : ab_MET mX11_judge (d + 5) 0 0 [va_rf (some t0), .int i1, .int i2, .int i3] h (ab_Pi r.1 r.2) := ab_met (by decide +kernel) (by decide +kernel) (Nat.le_of_ble_eq_true rfl) rfl (x_X11_judge ht0 hf)
set_option maxHeartbeats 4000000 in
set_option maxRecDepth 100000 in
theorem x_X11_image {d : Nat} {t0 : Nat} {h : ab_HP} {r : (Int32 × ab_HP)} (ht0 : (ab_shp t0).1 = 0) (hf : f_X11_image t0 h = some r) : ab_T mX11_image (d + 2) 0 0 0 0 0 [some (va_rf (some t0))] [] h (ab_Pi r.1 r.2) := by
  unfold f_X11_image at hf
  refine ab_aload_n (x := _) (pc2 := 1) dX11_image_0 rfl rfl ?_
  refine ab_getR (pc2 := 4) rfl ht0 fa_X11_16 dX11_image_1 rfl (fun T1 => ?_)
  refine ab_aload_n (x := _) (pc2 := 5) dX11_image_4 rfl rfl ?_
  refine ab_getR (pc2 := 8) rfl ht0 fa_X11_10 dX11_image_5 rfl (fun T2 => ?_)
  obtain ⟨q3, hq3, hf⟩ := ab_bind hf
  obtain ⟨w4, ew4, hf⟩ := ab_bind hf
  refine ab_callV (pc2 := 11) (st := []) hq3 (T1 q3 hq3) (by decide) (m_X9_become (d := (d + 0)) (T1 q3 hq3) T2 ew4) mf_X9_become tw_97 tw_96 ts_X9_become (Or.inl (by decide +kernel)) dX11_image_8 rfl (by omega) (Nat.le_refl _) (Nat.le_refl _) rfl (Nat.le_of_ble_eq_true rfl) (fun v u hp => ?_)
  obtain ⟨rfl, rfl⟩ := hp
  show ab_T _ _ _ _ 0 0 11 _ ([]) _ _
  refine ab_aload_n (x := _) (pc2 := 12) dX11_image_11 rfl rfl ?_
  refine ab_iconst (pc2 := 13) (v := 1) dX11_image_12 rfl ab_k_iconst_1 ?_
  have hf := ab_let_e hf
  refine ab_putI (pc2 := 16) rfl ht0 fa_X11_237 (Or.inr ⟨rfl, (Or.inr rfl)⟩) (fun z => by cases z) dX11_image_13 rfl ?_
  refine ab_aload_n (x := _) (pc2 := 17) dX11_image_16 rfl rfl ?_
  refine ab_getR (pc2 := 20) rfl ht0 fa_X11_10 dX11_image_17 rfl (fun T6 => ?_)
  obtain ⟨q7, hq7, hf⟩ := ab_bind hf
  refine ab_getI (pc2 := 23) hq7 (T6 q7 hq7) fa_X11_100 (by decide) dX11_image_20 rfl ?_
  cases Option.some.inj hf
  exact ab_retI dX11_image_23 (Or.inl rfl) (Nat.le_refl _) (Nat.le_refl _) ⟨rfl, rfl⟩
set_option maxHeartbeats 4000000 in
set_option maxRecDepth 100000 in
theorem m_X11_image {d : Nat} {t0 : Nat} {h : ab_HP} {r : (Int32 × ab_HP)} (ht0 : (ab_shp t0).1 = 0) (hf : f_X11_image t0 h = some r) : ab_MET mX11_image (d + 2) 0 0 [va_rf (some t0)] h (ab_Pi r.1 r.2) := ab_met (by decide +kernel) (by decide +kernel) (Nat.le_of_ble_eq_true rfl) rfl (x_X11_image ht0 hf)
set_option maxHeartbeats 4000000 in
set_option maxRecDepth 100000 in
theorem x_X11_restore {d : Nat} {t0 : Nat} {h : ab_HP} {r : (Int32 × ab_HP)} (ht0 : (ab_shp t0).1 = 0) (hf : f_X11_restore t0 h = some r) : ab_T mX11_restore (d + 2) 0 0 0 0 0 [some (va_rf (some t0))] [] h (ab_Pi r.1 r.2) := by
  unfold f_X11_restore at hf
  refine ab_aload_n (x := _) (pc2 := 1) dX11_restore_0 rfl rfl ?_
  refine ab_getI (pc2 := 4) rfl ht0 fa_X11_237 (by decide) dX11_restore_1 rfl ?_
  refine ab_if_ne (tgt := 10) (pc2 := 7) dX11_restore_4 (by decide) rfl hf (fun c1 hf => ?_) (fun c1 hf => ?_)
  · refine ab_aload_n (x := _) (pc2 := 11) dX11_restore_10 rfl rfl ?_
    refine ab_getR (pc2 := 14) rfl ht0 fa_X11_10 dX11_restore_11 rfl (fun T2 => ?_)
    refine ab_aload_n (x := _) (pc2 := 15) dX11_restore_14 rfl rfl ?_
    refine ab_getR (pc2 := 18) rfl ht0 fa_X11_16 dX11_restore_15 rfl (fun T3 => ?_)
    obtain ⟨q4, hq4, hf⟩ := ab_bind hf
    obtain ⟨w5, ew5, hf⟩ := ab_bind hf
    refine ab_callV (pc2 := 21) (st := []) hq4 (T2 q4 hq4) (by decide) (m_X9_become (d := (d + 0)) (T2 q4 hq4) T3 ew5) mf_X9_become tw_97 tw_96 ts_X9_become (Or.inl (by decide +kernel)) dX11_restore_18 rfl (by omega) (Nat.le_refl _) (Nat.le_refl _) rfl (Nat.le_of_ble_eq_true rfl) (fun v u hp => ?_)
    obtain ⟨rfl, rfl⟩ := hp
    show ab_T _ _ _ _ 0 0 21 _ ([]) _ _
    refine ab_aload_n (x := _) (pc2 := 22) dX11_restore_21 rfl rfl ?_
    refine ab_getR (pc2 := 25) rfl ht0 fa_X11_10 dX11_restore_22 rfl (fun T6 => ?_)
    obtain ⟨q7, hq7, hf⟩ := ab_bind hf
    refine ab_getI (pc2 := 28) hq7 (T6 q7 hq7) fa_X11_100 (by decide) dX11_restore_25 rfl ?_
    cases Option.some.inj hf
    exact ab_retI dX11_restore_28 (Or.inl rfl) (Nat.le_refl _) (Nat.le_refl _) ⟨rfl, rfl⟩
  · refine ab_bipush (pc2 := 9) (v := (-3)) dX11_restore_7 rfl ab_k_bipush_m3 ?_
    cases Option.some.inj hf
    exact ab_retI dX11_restore_9 (Or.inl rfl) (Nat.le_refl _) (Nat.le_refl _) ⟨rfl, rfl⟩
set_option maxHeartbeats 4000000 in
set_option maxRecDepth 100000 in
theorem m_X11_restore {d : Nat} {t0 : Nat} {h : ab_HP} {r : (Int32 × ab_HP)} (ht0 : (ab_shp t0).1 = 0) (hf : f_X11_restore t0 h = some r) : ab_MET mX11_restore (d + 2) 0 0 [va_rf (some t0)] h (ab_Pi r.1 r.2) := ab_met (by decide +kernel) (by decide +kernel) (Nat.le_of_ble_eq_true rfl) rfl (x_X11_restore ht0 hf)
set_option maxHeartbeats 4000000 in
set_option maxRecDepth 100000 in
theorem x_X11_counted {d : Nat} {t0 : Nat} {i1 : Option Nat} {i2 : Int32} {h : ab_HP} {r : Int32} (ht0 : (ab_shp t0).1 = 0) (T_i1 : ∀ z, i1 = some z → (ab_shp z).1 = 4) (hf : f_X11_counted t0 i1 i2 h = some r) : ab_T mX11_counted (d + 2) 0 0 0 0 0 [some (va_rf (some t0)), some (va_rf i1), some (.int i2)] [] h (ab_Pi r h) := by
  unfold f_X11_counted at hf
  refine ab_aload_n (x := _) (pc2 := 1) dX11_counted_0 rfl rfl ?_
  refine ab_nnul (tgt := 6) (pc2 := 4) dX11_counted_1 (by decide) rfl hf (fun hq1 hf => ?_) (fun q1 hq1 hf => ?_)
  · refine ab_iconst (pc2 := 5) (v := 0) dX11_counted_4 rfl ab_k_iconst_0 ?_
    cases Option.some.inj hf
    exact ab_retI dX11_counted_5 (Or.inl rfl) (Nat.le_refl _) (Nat.le_refl _) ⟨rfl, rfl⟩
  · refine ab_iload_n (pc2 := 7) dX11_counted_6 rfl rfl ?_
    rcases ab_cas hf with ⟨s2, hf⟩ | ⟨s2, hf⟩
    · refine ab_tswK (tgt := 32) dX11_counted_7 s2 (by decide) (by decide) (by decide +kernel) (by decide) ?_
      refine ab_aload_n (x := _) (pc2 := 33) dX11_counted_32 rfl rfl ?_
      refine ab_aload_n (x := _) (pc2 := 34) dX11_counted_33 rfl rfl ?_
      refine ab_getR (pc2 := 37) rfl ht0 fa_X11_10 dX11_counted_34 rfl (fun T3 => ?_)
      obtain ⟨q4, hq4, hf⟩ := ab_bind hf
      refine ab_getI (pc2 := 40) hq4 (T3 q4 hq4) fa_X11_94 (by decide) dX11_counted_37 rfl ?_
      refine ab_aload_n (x := _) (pc2 := 41) dX11_counted_40 rfl rfl ?_
      refine ab_getR (pc2 := 44) rfl ht0 fa_X11_10 dX11_counted_41 rfl (fun T5 => ?_)
      obtain ⟨q6, hq6, hf⟩ := ab_bind hf
      refine ab_getI (pc2 := 47) hq6 (T5 q6 hq6) fa_X11_97 (by decide) dX11_counted_44 rfl ?_
      obtain ⟨w7, ew7, hf⟩ := ab_bind hf
      refine ab_callV (pc2 := 50) (st := []) hq1 (T_i1 q1 hq1) (by decide) (m_X1_mayBeDone (d := (d + 0)) (T_i1 q1 hq1) ew7) mf_X1_mayBeDone tw_151 tw_149 ts_X1_mayBeDone (Or.inr tw_150) dX11_counted_47 rfl (by omega) (Nat.le_refl _) (Nat.le_refl _) rfl (Nat.le_of_ble_eq_true rfl) (fun v u hp => ?_)
      obtain ⟨rfl, rfl, z8⟩ := hp
      show ab_T _ _ _ _ 0 0 50 _ (.int _ :: []) _ _
      refine ab_if_eq (tgt := 57) (pc2 := 53) dX11_counted_50 (by decide) rfl hf (fun c9 hf => ?_) (fun c9 hf => ?_)
      · refine ab_iconst (pc2 := 58) (v := 0) dX11_counted_57 rfl ab_k_iconst_0 ?_
        cases Option.some.inj hf
        exact ab_retI dX11_counted_58 (Or.inl rfl) (Nat.le_refl _) (Nat.le_refl _) ⟨rfl, rfl⟩
      · refine ab_iconst (pc2 := 54) (v := 1) dX11_counted_53 rfl ab_k_iconst_1 ?_
        refine ab_goto (tgt := 58) dX11_counted_54 (by decide) ?_
        cases Option.some.inj hf
        exact ab_retI dX11_counted_58 (Or.inl rfl) (Nat.le_refl _) (Nat.le_refl _) ⟨rfl, rfl⟩
    rcases ab_cas hf with ⟨s10, hf⟩ | ⟨s10, hf⟩
    · refine ab_tswK (tgt := 59) dX11_counted_7 s10 (by decide) (by decide) (by decide +kernel) (by decide) ?_
      refine ab_aload_n (x := _) (pc2 := 60) dX11_counted_59 rfl rfl ?_
      refine ab_getI (pc2 := 63) hq1 (T_i1 q1 hq1) fa_X11_90 (by decide) dX11_counted_60 rfl ?_
      refine ab_if_eq (tgt := 70) (pc2 := 66) dX11_counted_63 (by decide) rfl hf (fun c11 hf => ?_) (fun c11 hf => ?_)
      · refine ab_iconst (pc2 := 71) (v := 0) dX11_counted_70 rfl ab_k_iconst_0 ?_
        cases Option.some.inj hf
        exact ab_retI dX11_counted_71 (Or.inl rfl) (Nat.le_refl _) (Nat.le_refl _) ⟨rfl, rfl⟩
      · refine ab_iconst (pc2 := 67) (v := 1) dX11_counted_66 rfl ab_k_iconst_1 ?_
        refine ab_goto (tgt := 71) dX11_counted_67 (by decide) ?_
        cases Option.some.inj hf
        exact ab_retI dX11_counted_71 (Or.inl rfl) (Nat.le_refl _) (Nat.le_refl _) ⟨rfl, rfl⟩
    rcases ab_cas hf with ⟨s12, hf⟩ | ⟨s12, hf⟩
    · refine ab_tswK (tgt := 72) dX11_counted_7 s12 (by decide) (by decide) (by decide +kernel) (by decide) ?_
      refine ab_aload_n (x := _) (pc2 := 73) dX11_counted_72 rfl rfl ?_
      refine ab_getI (pc2 := 76) hq1 (T_i1 q1 hq1) fa_X11_66 (by decide) dX11_counted_73 rfl ?_
      refine ab_bipush (pc2 := 78) (v := 6) dX11_counted_76 rfl ab_k_bipush_6 ?_
      refine ab_icmp_ne (tgt := 85) (pc2 := 81) dX11_counted_78 (by decide) rfl hf (fun c13 hf => ?_) (fun c13 hf => ?_)
      · refine ab_iconst (pc2 := 86) (v := 0) dX11_counted_85 rfl ab_k_iconst_0 ?_
        cases Option.some.inj hf
        exact ab_retI dX11_counted_86 (Or.inl rfl) (Nat.le_refl _) (Nat.le_refl _) ⟨rfl, rfl⟩
      · refine ab_iconst (pc2 := 82) (v := 1) dX11_counted_81 rfl ab_k_iconst_1 ?_
        refine ab_goto (tgt := 86) dX11_counted_82 (by decide) ?_
        cases Option.some.inj hf
        exact ab_retI dX11_counted_86 (Or.inl rfl) (Nat.le_refl _) (Nat.le_refl _) ⟨rfl, rfl⟩
    have s2n := lv_neT s2 (by decide : (2 : Int32).toInt = 2)
    have s10n := lv_neT s10 (by decide : (3 : Int32).toInt = 3)
    have s12n := lv_neT s12 (by decide : (4 : Int32).toInt = 4)
    refine ab_tswOut (tgt := 87) dX11_counted_7 (by omega) (by decide) ?_
    refine ab_aload_n (x := _) (pc2 := 88) dX11_counted_87 rfl rfl ?_
    refine ab_getI (pc2 := 91) hq1 (T_i1 q1 hq1) fa_X11_78 (by decide) dX11_counted_88 rfl ?_
    cases Option.some.inj hf
    exact ab_retI dX11_counted_91 (Or.inl rfl) (Nat.le_refl _) (Nat.le_refl _) ⟨rfl, rfl⟩
set_option maxHeartbeats 4000000 in
set_option maxRecDepth 100000 in
theorem m_X11_counted {d : Nat} {t0 : Nat} {i1 : Option Nat} {i2 : Int32} {h : ab_HP} {r : Int32} (ht0 : (ab_shp t0).1 = 0) (T_i1 : ∀ z, i1 = some z → (ab_shp z).1 = 4) (hf : f_X11_counted t0 i1 i2 h = some r) : ab_MET mX11_counted (d + 2) 0 0 [va_rf (some t0), va_rf i1, .int i2] h (ab_Pi r h) := ab_met (by decide +kernel) (by decide +kernel) (by simp [ab_lo, ab_rf1, Value.category]) (by simp [ab_lo0, ab_lo, ab_rf1, Value.category, List.replicate]) (x_X11_counted ht0 T_i1 hf)
set_option maxHeartbeats 4000000 in
set_option maxRecDepth 100000 in
theorem x_X11_count_l43 {d : Nat} {t0 : Nat} {r : Int32} (ht0 : (ab_shp t0).1 = 0) : ∀ (n : Nat) (i1 : Int32) (i2 : Int32) (i3 : Int32) (h : ab_HP), f_X11_count_l43 t0 n i1 i2 i3 h = some r → ab_T mX11_count (d + 3) 0 0 0 0 43 [some (va_rf (some t0)), some (.int i1), some (.int i2), some (.int i3)] [] h (ab_Pi r h) := by
  intro n
  induction n with
  | zero =>
    intro i1 i2 i3 h hf
    rw [f_X11_count_l43] at hf
    cases hf
  | succ n ih =>
    intro i1 i2 i3 h hf
    rw [f_X11_count_l43] at hf
    refine ab_iload_n (pc2 := 44) dX11_count_43 rfl rfl ?_
    refine ab_aload_n (x := _) (pc2 := 45) dX11_count_44 rfl rfl ?_
    refine ab_getR (pc2 := 48) rfl ht0 fa_X11_10 dX11_count_45 rfl (fun T10 => ?_)
    obtain ⟨q11, hq11, hf⟩ := ab_bind hf
    refine ab_getI (pc2 := 51) hq11 (T10 q11 hq11) fa_X11_207 (by decide) dX11_count_48 rfl ?_
    refine ab_icmp_ge (tgt := 76) (pc2 := 54) dX11_count_51 (by decide) rfl hf (fun c12 hf => ?_) (fun c12 hf => ?_)
    · refine ab_iload_n (pc2 := 77) dX11_count_76 rfl rfl ?_
      cases Option.some.inj hf
      exact ab_retI dX11_count_77 (Or.inl rfl) (Nat.le_refl _) (Nat.le_refl _) ⟨rfl, rfl⟩
    · refine ab_iload_n (pc2 := 55) dX11_count_54 rfl rfl ?_
      refine ab_aload_n (x := _) (pc2 := 56) dX11_count_55 rfl rfl ?_
      refine ab_aload_n (x := _) (pc2 := 57) dX11_count_56 rfl rfl ?_
      refine ab_getR (pc2 := 60) rfl ht0 fa_X11_10 dX11_count_57 rfl (fun T13 => ?_)
      refine ab_iload_n (pc2 := 61) dX11_count_60 rfl rfl ?_
      obtain ⟨q14, hq14, hf⟩ := ab_bind hf
      obtain ⟨w15, ew15, hf⟩ := ab_bind hf
      refine ab_callV (pc2 := 64) (st := [_, _]) hq14 (T13 q14 hq14) (by decide) (m_X9_deedAt (d := (d + 2)) (T13 q14 hq14) ew15) mf_X9_deedAt tw_127 tw_18 ts_X9_deedAt (Or.inl (by decide +kernel)) dX11_count_61 rfl (by omega) (Nat.le_refl _) (Nat.le_refl _) rfl (Nat.le_of_ble_eq_true rfl) (fun v u hp => ?_)
      obtain ⟨rfl, rfl, T16⟩ := hp
      show ab_T _ _ _ _ 0 0 64 _ (va_rf _ :: [_, _]) _ _
      refine ab_iload_n (pc2 := 65) dX11_count_64 rfl rfl ?_
      obtain ⟨w17, ew17, hf⟩ := ab_bind hf
      refine ab_callV (pc2 := 68) (st := [_]) rfl ht0 (by decide) (m_X11_counted (d := (d + 0)) ht0 T16 ew17) mf_X11_counted tw_326 tw_325 ts_X11_counted (Or.inl (by decide +kernel)) dX11_count_65 rfl (by omega) (Nat.le_refl _) (Nat.le_refl _) rfl (Nat.le_of_ble_eq_true rfl) (fun v u hp => ?_)
      obtain ⟨rfl, rfl⟩ := hp
      show ab_T _ _ _ _ 0 0 68 _ (.int _ :: [_]) _ _
      refine ab_iadd (pc2 := 69) dX11_count_68 rfl ?_
      refine ab_istore_n (pc2 := 70) (lo2 := [some (va_rf _), some (.int _), some (.int _), some (.int _)]) dX11_count_69 rfl (by decide) rfl ?_
      refine ab_iinc (pc2 := 73) (v := _ + 1) (lo2 := [some (va_rf _), some (.int _), some (.int _), some (.int _)]) dX11_count_70 rfl rfl rfl (by decide) rfl ?_
      refine ab_goto (tgt := 43) dX11_count_73 (by decide) ?_
      exact ab_weak (ih _ _ _ _ hf) (ab_leS (ab_leS (ab_leS (ab_leS ab_le0))))
set_option maxHeartbeats 4000000 in
set_option maxRecDepth 100000 in
theorem x_X11_count {d : Nat} {t0 : Nat} {i1 : Int32} {h : ab_HP} {r : Int32} (ht0 : (ab_shp t0).1 = 0) (hf : f_X11_count t0 i1 h = some r) : ab_T mX11_count (d + 3) 0 0 0 0 0 [some (va_rf (some t0)), some (.int i1), none, none] [] h (ab_Pi r h) := by
  unfold f_X11_count at hf
  refine ab_iload_n (pc2 := 1) dX11_count_0 rfl rfl ?_
  refine ab_if_ne (tgt := 12) (pc2 := 4) dX11_count_1 (by decide) rfl hf (fun c1 hf => ?_) (fun c1 hf => ?_)
  · refine ab_iload_n (pc2 := 13) dX11_count_12 rfl rfl ?_
    refine ab_iconst (pc2 := 14) (v := 1) dX11_count_13 rfl ab_k_iconst_1 ?_
    refine ab_icmp_ne (tgt := 28) (pc2 := 17) dX11_count_14 (by decide) rfl hf (fun c2 hf => ?_) (fun c2 hf => ?_)
    · refine ab_iload_n (pc2 := 29) dX11_count_28 rfl rfl ?_
      refine ab_if_lt (tgt := 37) (pc2 := 32) dX11_count_29 (by decide) rfl hf (fun c3 hf => ?_) (fun c3 hf => ?_)
      · refine ab_iconst (pc2 := 38) (v := (-1)) dX11_count_37 rfl ab_k_iconst_m1 ?_
        cases Option.some.inj hf
        exact ab_retI dX11_count_38 (Or.inl rfl) (Nat.le_refl _) (Nat.le_refl _) ⟨rfl, rfl⟩
      · refine ab_iload_n (pc2 := 33) dX11_count_32 rfl rfl ?_
        refine ab_iconst (pc2 := 34) (v := 5) dX11_count_33 rfl ab_k_iconst_5 ?_
        refine ab_icmp_le (tgt := 39) (pc2 := 37) dX11_count_34 (by decide) rfl hf (fun c4 hf => ?_) (fun c4 hf => ?_)
        · refine ab_iconst (pc2 := 40) (v := 0) dX11_count_39 rfl ab_k_iconst_0 ?_
          refine ab_istore_n (pc2 := 41) (lo2 := [some (va_rf _), some (.int _), some (.int _), none]) dX11_count_40 rfl (by decide) rfl ?_
          refine ab_iconst (pc2 := 42) (v := 0) dX11_count_41 rfl ab_k_iconst_0 ?_
          refine ab_istore_n (pc2 := 43) (lo2 := [some (va_rf _), some (.int _), some (.int _), some (.int _)]) dX11_count_42 rfl (by decide) rfl ?_
          exact ab_weak (x_X11_count_l43 ht0 _ _ _ _ _ hf) (ab_leS (ab_leS (ab_leS (ab_leS ab_le0))))
        · refine ab_iconst (pc2 := 38) (v := (-1)) dX11_count_37 rfl ab_k_iconst_m1 ?_
          cases Option.some.inj hf
          exact ab_retI dX11_count_38 (Or.inl rfl) (Nat.le_refl _) (Nat.le_refl _) ⟨rfl, rfl⟩
    · refine ab_aload_n (x := _) (pc2 := 18) dX11_count_17 rfl rfl ?_
      refine ab_getR (pc2 := 21) rfl ht0 fa_X11_10 dX11_count_18 rfl (fun T5 => ?_)
      obtain ⟨q6, hq6, hf⟩ := ab_bind hf
      refine ab_getI (pc2 := 24) hq6 (T5 q6 hq6) fa_X11_94 (by decide) dX11_count_21 rfl ?_
      obtain ⟨w7, ew7, hf⟩ := ab_bind hf
      refine ab_callS (pc2 := 27) (st := []) (m_J6_bitCount_0f7a4 (d := (d + 2)) ew7) mf_J6_bitCount_0f7a4 tw_202 tw_203 dX11_count_24 rfl (by omega) (Nat.le_refl _) (Nat.le_refl _) rfl (Nat.le_of_ble_eq_true rfl) (fun v u hp => ?_)
      obtain ⟨rfl, rfl⟩ := hp
      show ab_T _ _ _ _ 0 0 27 _ (.int _ :: []) _ _
      cases Option.some.inj hf
      exact ab_retI dX11_count_27 (Or.inl rfl) (Nat.le_refl _) (Nat.le_refl _) ⟨rfl, rfl⟩
  · refine ab_aload_n (x := _) (pc2 := 5) dX11_count_4 rfl rfl ?_
    refine ab_getR (pc2 := 8) rfl ht0 fa_X11_10 dX11_count_5 rfl (fun T8 => ?_)
    obtain ⟨q9, hq9, hf⟩ := ab_bind hf
    refine ab_getI (pc2 := 11) hq9 (T8 q9 hq9) fa_X11_207 (by decide) dX11_count_8 rfl ?_
    cases Option.some.inj hf
    exact ab_retI dX11_count_11 (Or.inl rfl) (Nat.le_refl _) (Nat.le_refl _) ⟨rfl, rfl⟩
set_option maxHeartbeats 4000000 in
set_option maxRecDepth 100000 in
theorem m_X11_count {d : Nat} {t0 : Nat} {i1 : Int32} {h : ab_HP} {r : Int32} (ht0 : (ab_shp t0).1 = 0) (hf : f_X11_count t0 i1 h = some r) : ab_MET mX11_count (d + 3) 0 0 [va_rf (some t0), .int i1] h (ab_Pi r h) := ab_met (by decide +kernel) (by decide +kernel) (Nat.le_of_ble_eq_true rfl) rfl (x_X11_count ht0 hf)
set_option maxHeartbeats 4000000 in
set_option maxRecDepth 100000 in
theorem x_X11_keep_b54 {d : Nat} {t0 : Nat} {i4 : Option Nat} {i5 : Option Nat} {h : ab_HP} {r : (Int32 × ab_HP)} (ht0 : (ab_shp t0).1 = 0) (T_i4 : ∀ z, i4 = some z → (ab_shp z).1 = 3) (T_i5 : ∀ z, i5 = some z → (ab_shp z).1 = 4) (hf : f_X11_keep_b54 t0 i4 i5 h = some r) : ab_T mX11_keep (d + 1) 0 0 0 0 54 [some (va_rf (some t0)), none, none, none, some (va_rf i4), some (va_rf i5)] [] h (ab_Pi r.1 r.2) := by
  unfold f_X11_keep_b54 at hf
  refine ab_aload (x := _) (pc2 := 56) dX11_keep_54 rfl rfl ?_
  refine ab_aload (x := _) (pc2 := 58) dX11_keep_56 rfl rfl ?_
  obtain ⟨q15, hq15, hf⟩ := ab_bind hf
  obtain ⟨w16, ew16, hf⟩ := ab_bind hf
  refine ab_callV (pc2 := 61) (st := []) hq15 (T_i4 q15 hq15) (by decide) (m_X6_hold (d := (d + 0)) (T_i4 q15 hq15) T_i5 ew16) mf_X6_hold tw_329 tw_328 ts_X6_hold (Or.inl (by decide +kernel)) dX11_keep_58 rfl (by omega) (Nat.le_refl _) (Nat.le_refl _) rfl (Nat.le_of_ble_eq_true rfl) (fun v u hp => ?_)
  obtain ⟨rfl, rfl⟩ := hp
  show ab_T _ _ _ _ 0 0 61 _ ([]) _ _
  refine ab_iconst (pc2 := 62) (v := 0) dX11_keep_61 rfl ab_k_iconst_0 ?_
  cases Option.some.inj hf
  exact ab_retI dX11_keep_62 (Or.inl rfl) (Nat.le_refl _) (Nat.le_refl _) ⟨rfl, rfl⟩
set_option maxHeartbeats 4000000 in
set_option maxRecDepth 100000 in
theorem x_X11_keep {d : Nat} {t0 : Nat} {i1 : Int32} {i2 : Int32} {i3 : Int32} {h : ab_HP} {r : (Int32 × ab_HP)} (ht0 : (ab_shp t0).1 = 0) (hf : f_X11_keep t0 i1 i2 i3 h = some r) : ab_T mX11_keep (d + 1) 0 0 0 0 0 [some (va_rf (some t0)), some (.int i1), some (.int i2), some (.int i3), none, none] [] h (ab_Pi r.1 r.2) := by
  unfold f_X11_keep at hf
  refine ab_aload_n (x := _) (pc2 := 1) dX11_keep_0 rfl rfl ?_
  refine ab_iload_n (pc2 := 2) dX11_keep_1 rfl rfl ?_
  obtain ⟨w1, ew1, hf⟩ := ab_bind hf
  refine ab_callV (pc2 := 5) (st := []) rfl ht0 (by decide) (m_X11_shelfAt (d := (d + 0)) ht0 ew1) mf_X11_shelfAt tw_93 tw_92 ts_X11_shelfAt (Or.inl (by decide +kernel)) dX11_keep_2 rfl (by omega) (Nat.le_refl _) (Nat.le_refl _) rfl (Nat.le_of_ble_eq_true rfl) (fun v u hp => ?_)
  obtain ⟨rfl, rfl, T2⟩ := hp
  show ab_T _ _ _ _ 0 0 5 _ (va_rf _ :: []) _ _
  refine ab_astore (pc2 := 7) (lo2 := [some (va_rf _), some (.int _), some (.int _), some (.int _), some (va_rf _), none]) dX11_keep_5 rfl (by decide) rfl ?_
  refine ab_aload (x := _) (pc2 := 9) dX11_keep_7 rfl rfl ?_
  refine ab_nul (tgt := 21) (pc2 := 12) dX11_keep_9 (by decide) rfl hf (fun hq3 hf => ?_) (fun q3 hq3 hf => ?_)
  · refine ab_iconst (pc2 := 22) (v := (-1)) dX11_keep_21 rfl ab_k_iconst_m1 ?_
    cases Option.some.inj hf
    exact ab_retI dX11_keep_22 (Or.inl rfl) (Nat.le_refl _) (Nat.le_refl _) ⟨rfl, rfl⟩
  · refine ab_iload_n (pc2 := 13) dX11_keep_12 rfl rfl ?_
    refine ab_if_lt (tgt := 21) (pc2 := 16) dX11_keep_13 (by decide) rfl hf (fun c4 hf => ?_) (fun c4 hf => ?_)
    · refine ab_iconst (pc2 := 22) (v := (-1)) dX11_keep_21 rfl ab_k_iconst_m1 ?_
      cases Option.some.inj hf
      exact ab_retI dX11_keep_22 (Or.inl rfl) (Nat.le_refl _) (Nat.le_refl _) ⟨rfl, rfl⟩
    · refine ab_iload_n (pc2 := 17) dX11_keep_16 rfl rfl ?_
      refine ab_iconst (pc2 := 18) (v := 1) dX11_keep_17 rfl ab_k_iconst_1 ?_
      refine ab_icmp_le (tgt := 23) (pc2 := 21) dX11_keep_18 (by decide) rfl hf (fun c5 hf => ?_) (fun c5 hf => ?_)
      · refine ab_iload_n (pc2 := 24) dX11_keep_23 rfl rfl ?_
        refine ab_iconst (pc2 := 25) (v := 1) dX11_keep_24 rfl ab_k_iconst_1 ?_
        refine ab_icmp_ne (tgt := 39) (pc2 := 28) dX11_keep_25 (by decide) rfl hf (fun c6 hf => ?_) (fun c6 hf => ?_)
        · refine ab_null (pc2 := 40) dX11_keep_39 rfl ?_
          refine ab_astore (pc2 := 42) (lo2 := [some (va_rf _), some (.int _), some (.int _), some (.int _), some (va_rf _), some (va_rf _)]) dX11_keep_40 rfl (by decide) rfl ?_
          refine ab_iload_n (pc2 := 43) dX11_keep_42 rfl rfl ?_
          refine ab_iconst (pc2 := 44) (v := 1) dX11_keep_43 rfl ab_k_iconst_1 ?_
          refine ab_icmp_ne (tgt := 54) (pc2 := 47) dX11_keep_44 (by decide) rfl hf (fun c7 hf => ?_) (fun c7 hf => ?_)
          · exact ab_weak (x_X11_keep_b54 ht0 T2 (fun z hz => by cases hz) hf) (ab_leS (ab_leN (ab_leN (ab_leN (ab_leS (ab_leS ab_le0))))))
          · refine ab_aload (x := _) (pc2 := 49) dX11_keep_47 rfl rfl ?_
            refine ab_nnul (tgt := 54) (pc2 := 52) dX11_keep_49 (by decide) rfl hf (fun hq8 hf => ?_) (fun q8 hq8 hf => ?_)
            · refine ab_iconst (pc2 := 53) (v := (-1)) dX11_keep_52 rfl ab_k_iconst_m1 ?_
              cases Option.some.inj hf
              exact ab_retI dX11_keep_53 (Or.inl rfl) (Nat.le_refl _) (Nat.le_refl _) ⟨rfl, rfl⟩
            · exact ab_weak (x_X11_keep_b54 ht0 T2 (fun z hz => by cases hz) hf) (ab_leS (ab_leN (ab_leN (ab_leN (ab_leS (ab_leS ab_le0))))))
        · refine ab_aload_n (x := _) (pc2 := 29) dX11_keep_28 rfl rfl ?_
          refine ab_getR (pc2 := 32) rfl ht0 fa_X11_10 dX11_keep_29 rfl (fun T9 => ?_)
          refine ab_iload_n (pc2 := 33) dX11_keep_32 rfl rfl ?_
          obtain ⟨q10, hq10, hf⟩ := ab_bind hf
          obtain ⟨w11, ew11, hf⟩ := ab_bind hf
          refine ab_callV (pc2 := 36) (st := []) hq10 (T9 q10 hq10) (by decide) (m_X9_deedAt (d := (d + 0)) (T9 q10 hq10) ew11) mf_X9_deedAt tw_127 tw_18 ts_X9_deedAt (Or.inl (by decide +kernel)) dX11_keep_33 rfl (by omega) (Nat.le_refl _) (Nat.le_refl _) rfl (Nat.le_of_ble_eq_true rfl) (fun v u hp => ?_)
          obtain ⟨rfl, rfl, T12⟩ := hp
          show ab_T _ _ _ _ 0 0 36 _ (va_rf _ :: []) _ _
          refine ab_goto (tgt := 40) dX11_keep_36 (by decide) ?_
          refine ab_astore (pc2 := 42) (lo2 := [some (va_rf _), some (.int _), some (.int _), some (.int _), some (va_rf _), some (va_rf _)]) dX11_keep_40 rfl (by decide) rfl ?_
          refine ab_iload_n (pc2 := 43) dX11_keep_42 rfl rfl ?_
          refine ab_iconst (pc2 := 44) (v := 1) dX11_keep_43 rfl ab_k_iconst_1 ?_
          refine ab_icmp_ne (tgt := 54) (pc2 := 47) dX11_keep_44 (by decide) rfl hf (fun c13 hf => ?_) (fun c13 hf => ?_)
          · exact ab_weak (x_X11_keep_b54 ht0 T2 T12 hf) (ab_leS (ab_leN (ab_leN (ab_leN (ab_leS (ab_leS ab_le0))))))
          · refine ab_aload (x := _) (pc2 := 49) dX11_keep_47 rfl rfl ?_
            refine ab_nnul (tgt := 54) (pc2 := 52) dX11_keep_49 (by decide) rfl hf (fun hq14 hf => ?_) (fun q14 hq14 hf => ?_)
            · refine ab_iconst (pc2 := 53) (v := (-1)) dX11_keep_52 rfl ab_k_iconst_m1 ?_
              cases Option.some.inj hf
              exact ab_retI dX11_keep_53 (Or.inl rfl) (Nat.le_refl _) (Nat.le_refl _) ⟨rfl, rfl⟩
            · exact ab_weak (x_X11_keep_b54 ht0 T2 T12 hf) (ab_leS (ab_leN (ab_leN (ab_leN (ab_leS (ab_leS ab_le0))))))
      · refine ab_iconst (pc2 := 22) (v := (-1)) dX11_keep_21 rfl ab_k_iconst_m1 ?_
        cases Option.some.inj hf
        exact ab_retI dX11_keep_22 (Or.inl rfl) (Nat.le_refl _) (Nat.le_refl _) ⟨rfl, rfl⟩
set_option maxHeartbeats 4000000 in
set_option maxRecDepth 100000 in
theorem m_X11_keep {d : Nat} {t0 : Nat} {i1 : Int32} {i2 : Int32} {i3 : Int32} {h : ab_HP} {r : (Int32 × ab_HP)} (ht0 : (ab_shp t0).1 = 0) (hf : f_X11_keep t0 i1 i2 i3 h = some r) : ab_MET mX11_keep (d + 1) 0 0 [va_rf (some t0), .int i1, .int i2, .int i3] h (ab_Pi r.1 r.2) := ab_met (by decide +kernel) (by decide +kernel) (Nat.le_of_ble_eq_true rfl) rfl (x_X11_keep ht0 hf)
set_option maxHeartbeats 4000000 in
set_option maxRecDepth 100000 in
theorem x_X11_row {d : Nat} {t0 : Nat} {i1 : Int32} {i2 : Int32} {i3 : Int32} {h : ab_HP} {r : (Int32 × ab_HP)} (ht0 : (ab_shp t0).1 = 0) (hf : f_X11_row t0 i1 i2 i3 h = some r) : ab_T mX11_row (d + 1) 0 0 0 0 0 [some (va_rf (some t0)), some (.int i1), some (.int i2), some (.int i3), none] [] h (ab_Pi r.1 r.2) := by
  unfold f_X11_row at hf
  refine ab_aload_n (x := _) (pc2 := 1) dX11_row_0 rfl rfl ?_
  refine ab_iload_n (pc2 := 2) dX11_row_1 rfl rfl ?_
  obtain ⟨w1, ew1, hf⟩ := ab_bind hf
  refine ab_callV (pc2 := 5) (st := []) rfl ht0 (by decide) (m_X11_shelfAt (d := (d + 0)) ht0 ew1) mf_X11_shelfAt tw_93 tw_92 ts_X11_shelfAt (Or.inl (by decide +kernel)) dX11_row_2 rfl (by omega) (Nat.le_refl _) (Nat.le_refl _) rfl (Nat.le_of_ble_eq_true rfl) (fun v u hp => ?_)
  obtain ⟨rfl, rfl, T2⟩ := hp
  show ab_T _ _ _ _ 0 0 5 _ (va_rf _ :: []) _ _
  refine ab_astore (pc2 := 7) (lo2 := [some (va_rf _), some (.int _), some (.int _), some (.int _), some (va_rf _)]) dX11_row_5 rfl (by decide) rfl ?_
  refine ab_aload (x := _) (pc2 := 9) dX11_row_7 rfl rfl ?_
  refine ab_nul (tgt := 27) (pc2 := 12) dX11_row_9 (by decide) rfl hf (fun hq3 hf => ?_) (fun q3 hq3 hf => ?_)
  · refine ab_iconst (pc2 := 28) (v := (-1)) dX11_row_27 rfl ab_k_iconst_m1 ?_
    cases Option.some.inj hf
    exact ab_retI dX11_row_28 (Or.inl rfl) (Nat.le_refl _) (Nat.le_refl _) ⟨rfl, rfl⟩
  · refine ab_iload_n (pc2 := 13) dX11_row_12 rfl rfl ?_
    refine ab_if_lt (tgt := 27) (pc2 := 16) dX11_row_13 (by decide) rfl hf (fun c4 hf => ?_) (fun c4 hf => ?_)
    · refine ab_iconst (pc2 := 28) (v := (-1)) dX11_row_27 rfl ab_k_iconst_m1 ?_
      cases Option.some.inj hf
      exact ab_retI dX11_row_28 (Or.inl rfl) (Nat.le_refl _) (Nat.le_refl _) ⟨rfl, rfl⟩
    · refine ab_iload_n (pc2 := 17) dX11_row_16 rfl rfl ?_
      refine ab_iconst (pc2 := 18) (v := 2) dX11_row_17 rfl ab_k_iconst_2 ?_
      refine ab_icmp_gt (tgt := 27) (pc2 := 21) dX11_row_18 (by decide) rfl hf (fun c5 hf => ?_) (fun c5 hf => ?_)
      · refine ab_iconst (pc2 := 28) (v := (-1)) dX11_row_27 rfl ab_k_iconst_m1 ?_
        cases Option.some.inj hf
        exact ab_retI dX11_row_28 (Or.inl rfl) (Nat.le_refl _) (Nat.le_refl _) ⟨rfl, rfl⟩
      · refine ab_iload_n (pc2 := 22) dX11_row_21 rfl rfl ?_
        refine ab_bipush (pc2 := 24) (v := 100) dX11_row_22 rfl ab_k_bipush_100 ?_
        refine ab_icmp_le (tgt := 29) (pc2 := 27) dX11_row_24 (by decide) rfl hf (fun c6 hf => ?_) (fun c6 hf => ?_)
        · refine ab_iload_n (pc2 := 30) dX11_row_29 rfl rfl ?_
          refine ab_if_ge (tgt := 36) (pc2 := 33) dX11_row_30 (by decide) rfl hf (fun c7 hf => ?_) (fun c7 hf => ?_)
          · refine ab_aload (x := _) (pc2 := 38) dX11_row_36 rfl rfl ?_
            refine ab_iload_n (pc2 := 39) dX11_row_38 rfl rfl ?_
            refine ab_iload_n (pc2 := 40) dX11_row_39 rfl rfl ?_
            obtain ⟨w8, ew8, hf⟩ := ab_bind hf
            refine ab_callV (pc2 := 43) (st := []) hq3 (T2 q3 hq3) (by decide) (m_X6_holdRow (d := (d + 0)) (T2 q3 hq3) ew8) mf_X6_holdRow tw_333 tw_332 ts_X6_holdRow (Or.inl (by decide +kernel)) dX11_row_40 rfl (by omega) (Nat.le_refl _) (Nat.le_refl _) rfl (Nat.le_of_ble_eq_true rfl) (fun v u hp => ?_)
            obtain ⟨rfl, rfl⟩ := hp
            show ab_T _ _ _ _ 0 0 43 _ ([]) _ _
            refine ab_iconst (pc2 := 44) (v := 0) dX11_row_43 rfl ab_k_iconst_0 ?_
            cases Option.some.inj hf
            exact ab_retI dX11_row_44 (Or.inl rfl) (Nat.le_refl _) (Nat.le_refl _) ⟨rfl, rfl⟩
          · refine ab_bipush (pc2 := 35) (v := (-14)) dX11_row_33 rfl ab_k_bipush_m14 ?_
            cases Option.some.inj hf
            exact ab_retI dX11_row_35 (Or.inl rfl) (Nat.le_refl _) (Nat.le_refl _) ⟨rfl, rfl⟩
        · refine ab_iconst (pc2 := 28) (v := (-1)) dX11_row_27 rfl ab_k_iconst_m1 ?_
          cases Option.some.inj hf
          exact ab_retI dX11_row_28 (Or.inl rfl) (Nat.le_refl _) (Nat.le_refl _) ⟨rfl, rfl⟩
set_option maxHeartbeats 4000000 in
set_option maxRecDepth 100000 in
theorem m_X11_row {d : Nat} {t0 : Nat} {i1 : Int32} {i2 : Int32} {i3 : Int32} {h : ab_HP} {r : (Int32 × ab_HP)} (ht0 : (ab_shp t0).1 = 0) (hf : f_X11_row t0 i1 i2 i3 h = some r) : ab_MET mX11_row (d + 1) 0 0 [va_rf (some t0), .int i1, .int i2, .int i3] h (ab_Pi r.1 r.2) := ab_met (by decide +kernel) (by decide +kernel) (Nat.le_of_ble_eq_true rfl) rfl (x_X11_row ht0 hf)
set_option maxHeartbeats 4000000 in
set_option maxRecDepth 100000 in
theorem x_X11_put {d : Nat} {t0 : Nat} {i1 : Int32} {i2 : Int32} {i3 : Int32} {h : ab_HP} {r : (Int32 × ab_HP)} (ht0 : (ab_shp t0).1 = 0) (hf : f_X11_put t0 i1 i2 i3 h = some r) : ab_T mX11_put (d + 2) 0 0 0 0 0 [some (va_rf (some t0)), some (.int i1), some (.int i2), some (.int i3), none, none] [] h (ab_Pi r.1 r.2) := by
  unfold f_X11_put at hf
  refine ab_aload_n (x := _) (pc2 := 1) dX11_put_0 rfl rfl ?_
  refine ab_iload_n (pc2 := 2) dX11_put_1 rfl rfl ?_
  obtain ⟨w1, ew1, hf⟩ := ab_bind hf
  refine ab_callV (pc2 := 5) (st := []) rfl ht0 (by decide) (m_X11_shelfAt (d := (d + 1)) ht0 ew1) mf_X11_shelfAt tw_93 tw_92 ts_X11_shelfAt (Or.inl (by decide +kernel)) dX11_put_2 rfl (by omega) (Nat.le_refl _) (Nat.le_refl _) rfl (Nat.le_of_ble_eq_true rfl) (fun v u hp => ?_)
  obtain ⟨rfl, rfl, T2⟩ := hp
  show ab_T _ _ _ _ 0 0 5 _ (va_rf _ :: []) _ _
  refine ab_astore (pc2 := 7) (lo2 := [some (va_rf _), some (.int _), some (.int _), some (.int _), some (va_rf _), none]) dX11_put_5 rfl (by decide) rfl ?_
  refine ab_aload (x := _) (pc2 := 9) dX11_put_7 rfl rfl ?_
  refine ab_nnul (tgt := 14) (pc2 := 12) dX11_put_9 (by decide) rfl hf (fun hq3 hf => ?_) (fun q3 hq3 hf => ?_)
  · refine ab_iconst (pc2 := 13) (v := (-1)) dX11_put_12 rfl ab_k_iconst_m1 ?_
    cases Option.some.inj hf
    exact ab_retI dX11_put_13 (Or.inl rfl) (Nat.le_refl _) (Nat.le_refl _) ⟨rfl, rfl⟩
  · refine ab_aload (x := _) (pc2 := 16) dX11_put_14 rfl rfl ?_
    obtain ⟨w4, ew4, hf⟩ := ab_bind hf
    refine ab_callV (pc2 := 19) (st := []) hq3 (T2 q3 hq3) (by decide) (m_X6_rowRefusal (d := (d + 0)) (T2 q3 hq3) ew4) mf_X6_rowRefusal tw_279 tw_278 ts_X6_rowRefusal (Or.inl (by decide +kernel)) dX11_put_16 rfl (by omega) (Nat.le_refl _) (Nat.le_refl _) rfl (Nat.le_of_ble_eq_true rfl) (fun v u hp => ?_)
    obtain ⟨rfl, rfl⟩ := hp
    show ab_T _ _ _ _ 0 0 19 _ (.int _ :: []) _ _
    refine ab_istore (pc2 := 21) (lo2 := [some (va_rf _), some (.int _), some (.int _), some (.int _), some (va_rf _), some (.int _)]) dX11_put_19 rfl (by decide) rfl ?_
    refine ab_iload (pc2 := 23) dX11_put_21 rfl rfl ?_
    refine ab_if_eq (tgt := 29) (pc2 := 26) dX11_put_23 (by decide) rfl hf (fun c5 hf => ?_) (fun c5 hf => ?_)
    · refine ab_aload (x := _) (pc2 := 31) dX11_put_29 rfl rfl ?_
      refine ab_iload_n (pc2 := 32) dX11_put_31 rfl rfl ?_
      refine ab_iload_n (pc2 := 33) dX11_put_32 rfl rfl ?_
      obtain ⟨w6, ew6, hf⟩ := ab_bind hf
      refine ab_callV (pc2 := 36) (st := []) hq3 (T2 q3 hq3) (by decide) (m_X6_write (d := (d + 0)) (T2 q3 hq3) ew6) mf_X6_write tw_335 tw_334 ts_X6_write (Or.inl (by decide +kernel)) dX11_put_33 rfl (by omega) (Nat.le_refl _) (Nat.le_refl _) rfl (Nat.le_of_ble_eq_true rfl) (fun v u hp => ?_)
      obtain ⟨rfl, rfl, z7⟩ := hp
      show ab_T _ _ _ _ 0 0 36 _ (.int _ :: []) _ _
      refine ab_if_eq (tgt := 43) (pc2 := 39) dX11_put_36 (by decide) rfl hf (fun c8 hf => ?_) (fun c8 hf => ?_)
      · refine ab_bipush (pc2 := 45) (v := (-13)) dX11_put_43 rfl ab_k_bipush_m13 ?_
        cases Option.some.inj hf
        exact ab_retI dX11_put_45 (Or.inl rfl) (Nat.le_refl _) (Nat.le_refl _) ⟨rfl, rfl⟩
      · refine ab_iconst (pc2 := 40) (v := 0) dX11_put_39 rfl ab_k_iconst_0 ?_
        refine ab_goto (tgt := 45) dX11_put_40 (by decide) ?_
        cases Option.some.inj hf
        exact ab_retI dX11_put_45 (Or.inl rfl) (Nat.le_refl _) (Nat.le_refl _) ⟨rfl, rfl⟩
    · refine ab_iload (pc2 := 28) dX11_put_26 rfl rfl ?_
      cases Option.some.inj hf
      exact ab_retI dX11_put_28 (Or.inl rfl) (Nat.le_refl _) (Nat.le_refl _) ⟨rfl, rfl⟩
set_option maxHeartbeats 4000000 in
set_option maxRecDepth 100000 in
theorem m_X11_put {d : Nat} {t0 : Nat} {i1 : Int32} {i2 : Int32} {i3 : Int32} {h : ab_HP} {r : (Int32 × ab_HP)} (ht0 : (ab_shp t0).1 = 0) (hf : f_X11_put t0 i1 i2 i3 h = some r) : ab_MET mX11_put (d + 2) 0 0 [va_rf (some t0), .int i1, .int i2, .int i3] h (ab_Pi r.1 r.2) := ab_met (by decide +kernel) (by decide +kernel) (Nat.le_of_ble_eq_true rfl) rfl (x_X11_put ht0 hf)
set_option maxHeartbeats 4000000 in
set_option maxRecDepth 100000 in
theorem x_X11_copy {d : Nat} {t0 : Nat} {i1 : Int32} {i2 : Int32} {i3 : Int32} {i4 : Int32} {i5 : Int32} {h : ab_HP} {r : (Int32 × ab_HP)} (ht0 : (ab_shp t0).1 = 0) (hf : f_X11_copy t0 i1 i2 i3 i4 i5 h = some r) : ab_T mX11_copy (d + 2) 0 0 0 0 0 [some (va_rf (some t0)), some (.int i1), some (.int i2), some (.int i3), some (.int i4), some (.int i5), none, none] [] h (ab_Pi r.1 r.2) := by
  unfold f_X11_copy at hf
  refine ab_aload_n (x := _) (pc2 := 1) dX11_copy_0 rfl rfl ?_
  refine ab_iload_n (pc2 := 2) dX11_copy_1 rfl rfl ?_
  obtain ⟨w1, ew1, hf⟩ := ab_bind hf
  refine ab_callV (pc2 := 5) (st := []) rfl ht0 (by decide) (m_X11_shelfAt (d := (d + 1)) ht0 ew1) mf_X11_shelfAt tw_93 tw_92 ts_X11_shelfAt (Or.inl (by decide +kernel)) dX11_copy_2 rfl (by omega) (Nat.le_refl _) (Nat.le_refl _) rfl (Nat.le_of_ble_eq_true rfl) (fun v u hp => ?_)
  obtain ⟨rfl, rfl, T2⟩ := hp
  show ab_T _ _ _ _ 0 0 5 _ (va_rf _ :: []) _ _
  refine ab_astore (pc2 := 7) (lo2 := [some (va_rf _), some (.int _), some (.int _), some (.int _), some (.int _), some (.int _), some (va_rf _), none]) dX11_copy_5 rfl (by decide) rfl ?_
  refine ab_aload_n (x := _) (pc2 := 8) dX11_copy_7 rfl rfl ?_
  refine ab_iload_n (pc2 := 9) dX11_copy_8 rfl rfl ?_
  obtain ⟨w3, ew3, hf⟩ := ab_bind hf
  refine ab_callV (pc2 := 12) (st := []) rfl ht0 (by decide) (m_X11_shelfAt (d := (d + 1)) ht0 ew3) mf_X11_shelfAt tw_93 tw_92 ts_X11_shelfAt (Or.inl (by decide +kernel)) dX11_copy_9 rfl (by omega) (Nat.le_refl _) (Nat.le_refl _) rfl (Nat.le_of_ble_eq_true rfl) (fun v u hp => ?_)
  obtain ⟨rfl, rfl, T4⟩ := hp
  show ab_T _ _ _ _ 0 0 12 _ (va_rf _ :: []) _ _
  refine ab_astore (pc2 := 14) (lo2 := [some (va_rf _), some (.int _), some (.int _), some (.int _), some (.int _), some (.int _), some (va_rf _), some (va_rf _)]) dX11_copy_12 rfl (by decide) rfl ?_
  refine ab_aload (x := _) (pc2 := 16) dX11_copy_14 rfl rfl ?_
  refine ab_nul (tgt := 24) (pc2 := 19) dX11_copy_16 (by decide) rfl hf (fun hq5 hf => ?_) (fun q5 hq5 hf => ?_)
  · refine ab_iconst (pc2 := 25) (v := (-1)) dX11_copy_24 rfl ab_k_iconst_m1 ?_
    cases Option.some.inj hf
    exact ab_retI dX11_copy_25 (Or.inl rfl) (Nat.le_refl _) (Nat.le_refl _) ⟨rfl, rfl⟩
  · refine ab_aload (x := _) (pc2 := 21) dX11_copy_19 rfl rfl ?_
    refine ab_nnul (tgt := 26) (pc2 := 24) dX11_copy_21 (by decide) rfl hf (fun hq6 hf => ?_) (fun q6 hq6 hf => ?_)
    · refine ab_iconst (pc2 := 25) (v := (-1)) dX11_copy_24 rfl ab_k_iconst_m1 ?_
      cases Option.some.inj hf
      exact ab_retI dX11_copy_25 (Or.inl rfl) (Nat.le_refl _) (Nat.le_refl _) ⟨rfl, rfl⟩
    · refine ab_aload (x := _) (pc2 := 28) dX11_copy_26 rfl rfl ?_
      obtain ⟨w7, ew7, hf⟩ := ab_bind hf
      refine ab_callV (pc2 := 31) (st := []) hq5 (T2 q5 hq5) (by decide) (m_X6_isEmpty (d := (d + 1)) (T2 q5 hq5) ew7) mf_X6_isEmpty tw_336 tw_16 ts_X6_isEmpty (Or.inl (by decide +kernel)) dX11_copy_28 rfl (by omega) (Nat.le_refl _) (Nat.le_refl _) rfl (Nat.le_of_ble_eq_true rfl) (fun v u hp => ?_)
      obtain ⟨rfl, rfl, z8⟩ := hp
      show ab_T _ _ _ _ 0 0 31 _ (.int _ :: []) _ _
      refine ab_if_ne (tgt := 42) (pc2 := 34) dX11_copy_31 (by decide) rfl hf (fun c9 hf => ?_) (fun c9 hf => ?_)
      · refine ab_bipush (pc2 := 44) (v := (-11)) dX11_copy_42 rfl ab_k_bipush_m11 ?_
        cases Option.some.inj hf
        exact ab_retI dX11_copy_44 (Or.inl rfl) (Nat.le_refl _) (Nat.le_refl _) ⟨rfl, rfl⟩
      · refine ab_aload (x := _) (pc2 := 36) dX11_copy_34 rfl rfl ?_
        obtain ⟨w10, ew10, hf⟩ := ab_bind hf
        refine ab_callV (pc2 := 39) (st := []) hq6 (T4 q6 hq6) (by decide) (m_X6_isEmpty (d := (d + 1)) (T4 q6 hq6) ew10) mf_X6_isEmpty tw_336 tw_16 ts_X6_isEmpty (Or.inl (by decide +kernel)) dX11_copy_36 rfl (by omega) (Nat.le_refl _) (Nat.le_refl _) rfl (Nat.le_of_ble_eq_true rfl) (fun v u hp => ?_)
        obtain ⟨rfl, rfl, z11⟩ := hp
        show ab_T _ _ _ _ 0 0 39 _ (.int _ :: []) _ _
        refine ab_if_eq (tgt := 45) (pc2 := 42) dX11_copy_39 (by decide) rfl hf (fun c12 hf => ?_) (fun c12 hf => ?_)
        · refine ab_aload (x := _) (pc2 := 47) dX11_copy_45 rfl rfl ?_
          obtain ⟨w13, ew13, hf⟩ := ab_bind hf
          refine ab_callV (pc2 := 50) (st := []) hq5 (T2 q5 hq5) (by decide) (m_X6_rowRefusal (d := (d + 0)) (T2 q5 hq5) ew13) mf_X6_rowRefusal tw_279 tw_278 ts_X6_rowRefusal (Or.inl (by decide +kernel)) dX11_copy_47 rfl (by omega) (Nat.le_refl _) (Nat.le_refl _) rfl (Nat.le_of_ble_eq_true rfl) (fun v u hp => ?_)
          obtain ⟨rfl, rfl⟩ := hp
          show ab_T _ _ _ _ 0 0 50 _ (.int _ :: []) _ _
          refine ab_if_ne (tgt := 74) (pc2 := 53) dX11_copy_50 (by decide) rfl hf (fun c14 hf => ?_) (fun c14 hf => ?_)
          · refine ab_bipush (pc2 := 76) (v := (-12)) dX11_copy_74 rfl ab_k_bipush_m12 ?_
            cases Option.some.inj hf
            exact ab_retI dX11_copy_76 (Or.inl rfl) (Nat.le_refl _) (Nat.le_refl _) ⟨rfl, rfl⟩
          · refine ab_aload (x := _) (pc2 := 55) dX11_copy_53 rfl rfl ?_
            obtain ⟨w15, ew15, hf⟩ := ab_bind hf
            refine ab_callV (pc2 := 58) (st := []) hq6 (T4 q6 hq6) (by decide) (m_X6_rowRefusal (d := (d + 0)) (T4 q6 hq6) ew15) mf_X6_rowRefusal tw_279 tw_278 ts_X6_rowRefusal (Or.inl (by decide +kernel)) dX11_copy_55 rfl (by omega) (Nat.le_refl _) (Nat.le_refl _) rfl (Nat.le_of_ble_eq_true rfl) (fun v u hp => ?_)
            obtain ⟨rfl, rfl⟩ := hp
            show ab_T _ _ _ _ 0 0 58 _ (.int _ :: []) _ _
            refine ab_if_ne (tgt := 74) (pc2 := 61) dX11_copy_58 (by decide) rfl hf (fun c16 hf => ?_) (fun c16 hf => ?_)
            · refine ab_bipush (pc2 := 76) (v := (-12)) dX11_copy_74 rfl ab_k_bipush_m12 ?_
              cases Option.some.inj hf
              exact ab_retI dX11_copy_76 (Or.inl rfl) (Nat.le_refl _) (Nat.le_refl _) ⟨rfl, rfl⟩
            · refine ab_aload (x := _) (pc2 := 63) dX11_copy_61 rfl rfl ?_
              refine ab_getI (pc2 := 66) hq5 (T2 q5 hq5) fa_X11_275 (by decide) dX11_copy_63 rfl ?_
              refine ab_aload (x := _) (pc2 := 68) dX11_copy_66 rfl rfl ?_
              refine ab_getI (pc2 := 71) hq6 (T4 q6 hq6) fa_X11_275 (by decide) dX11_copy_68 rfl ?_
              refine ab_icmp_eq (tgt := 77) (pc2 := 74) dX11_copy_71 (by decide) rfl hf (fun c17 hf => ?_) (fun c17 hf => ?_)
              · refine ab_aload (x := _) (pc2 := 79) dX11_copy_77 rfl rfl ?_
                refine ab_iload_n (pc2 := 80) dX11_copy_79 rfl rfl ?_
                refine ab_iload (pc2 := 82) dX11_copy_80 rfl rfl ?_
                obtain ⟨w18, ew18, hf⟩ := ab_bind hf
                refine ab_callV (pc2 := 85) (st := []) hq5 (T2 q5 hq5) (by decide) (m_X6_hasPlaces (d := (d + 1)) (T2 q5 hq5) ew18) mf_X6_hasPlaces tw_338 tw_337 ts_X6_hasPlaces (Or.inl (by decide +kernel)) dX11_copy_82 rfl (by omega) (Nat.le_refl _) (Nat.le_refl _) rfl (Nat.le_of_ble_eq_true rfl) (fun v u hp => ?_)
                obtain ⟨rfl, rfl, z19⟩ := hp
                show ab_T _ _ _ _ 0 0 85 _ (.int _ :: []) _ _
                refine ab_if_eq (tgt := 100) (pc2 := 88) dX11_copy_85 (by decide) rfl hf (fun c20 hf => ?_) (fun c20 hf => ?_)
                · refine ab_bipush (pc2 := 102) (v := (-13)) dX11_copy_100 rfl ab_k_bipush_m13 ?_
                  cases Option.some.inj hf
                  exact ab_retI dX11_copy_102 (Or.inl rfl) (Nat.le_refl _) (Nat.le_refl _) ⟨rfl, rfl⟩
                · refine ab_aload (x := _) (pc2 := 90) dX11_copy_88 rfl rfl ?_
                  refine ab_iload (pc2 := 92) dX11_copy_90 rfl rfl ?_
                  refine ab_iload (pc2 := 94) dX11_copy_92 rfl rfl ?_
                  obtain ⟨w21, ew21, hf⟩ := ab_bind hf
                  refine ab_callV (pc2 := 97) (st := []) hq6 (T4 q6 hq6) (by decide) (m_X6_hasPlaces (d := (d + 1)) (T4 q6 hq6) ew21) mf_X6_hasPlaces tw_338 tw_337 ts_X6_hasPlaces (Or.inl (by decide +kernel)) dX11_copy_94 rfl (by omega) (Nat.le_refl _) (Nat.le_refl _) rfl (Nat.le_of_ble_eq_true rfl) (fun v u hp => ?_)
                  obtain ⟨rfl, rfl, z22⟩ := hp
                  show ab_T _ _ _ _ 0 0 97 _ (.int _ :: []) _ _
                  refine ab_if_ne (tgt := 103) (pc2 := 100) dX11_copy_97 (by decide) rfl hf (fun c23 hf => ?_) (fun c23 hf => ?_)
                  · refine ab_aload (x := _) (pc2 := 105) dX11_copy_103 rfl rfl ?_
                    refine ab_getR (pc2 := 108) hq5 (T2 q5 hq5) fa_X11_281 dX11_copy_105 rfl (fun T24 => ?_)
                    refine ab_iload_n (pc2 := 109) dX11_copy_108 rfl rfl ?_
                    refine ab_aload (x := _) (pc2 := 111) dX11_copy_109 rfl rfl ?_
                    refine ab_getR (pc2 := 114) hq6 (T4 q6 hq6) fa_X11_281 dX11_copy_111 rfl (fun T25 => ?_)
                    refine ab_iload (pc2 := 116) dX11_copy_114 rfl rfl ?_
                    refine ab_iload (pc2 := 118) dX11_copy_116 rfl rfl ?_
                    obtain ⟨q26, hq26, hf⟩ := ab_bind hf
                    obtain ⟨q27, hq27, hf⟩ := ab_bind hf
                    obtain ⟨b28, hf⟩ := ab_guard hf
                    obtain ⟨b28a, b28b, b28c, b28d, b28e⟩ := ab_cpok_e b28
                    have hf := ab_let_e hf
                    refine ab_acopy (pc2 := 121) hq27 hq26 (T24 q27 hq27) (T25 q26 hq26) b28a b28b b28c b28d b28e tw_339 tw_340 tw_341 tw_342 (by omega) (Nat.le_of_ble_eq_true rfl) dX11_copy_118 rfl ?_
                    refine ab_iload (pc2 := 123) dX11_copy_121 rfl rfl ?_
                    cases Option.some.inj hf
                    exact ab_retI dX11_copy_123 (Or.inl rfl) (Nat.le_refl _) (Nat.le_refl _) ⟨rfl, rfl⟩
                  · refine ab_bipush (pc2 := 102) (v := (-13)) dX11_copy_100 rfl ab_k_bipush_m13 ?_
                    cases Option.some.inj hf
                    exact ab_retI dX11_copy_102 (Or.inl rfl) (Nat.le_refl _) (Nat.le_refl _) ⟨rfl, rfl⟩
              · refine ab_bipush (pc2 := 76) (v := (-12)) dX11_copy_74 rfl ab_k_bipush_m12 ?_
                cases Option.some.inj hf
                exact ab_retI dX11_copy_76 (Or.inl rfl) (Nat.le_refl _) (Nat.le_refl _) ⟨rfl, rfl⟩
        · refine ab_bipush (pc2 := 44) (v := (-11)) dX11_copy_42 rfl ab_k_bipush_m11 ?_
          cases Option.some.inj hf
          exact ab_retI dX11_copy_44 (Or.inl rfl) (Nat.le_refl _) (Nat.le_refl _) ⟨rfl, rfl⟩
set_option maxHeartbeats 4000000 in
set_option maxRecDepth 100000 in
theorem m_X11_copy {d : Nat} {t0 : Nat} {i1 : Int32} {i2 : Int32} {i3 : Int32} {i4 : Int32} {i5 : Int32} {h : ab_HP} {r : (Int32 × ab_HP)} (ht0 : (ab_shp t0).1 = 0) (hf : f_X11_copy t0 i1 i2 i3 i4 i5 h = some r) : ab_MET mX11_copy (d + 2) 0 0 [va_rf (some t0), .int i1, .int i2, .int i3, .int i4, .int i5] h (ab_Pi r.1 r.2) := ab_met (by decide +kernel) (by decide +kernel) (Nat.le_of_ble_eq_true rfl) rfl (x_X11_copy ht0 hf)
set_option maxHeartbeats 4000000 in
set_option maxRecDepth 100000 in
theorem x_X11_care {d : Nat} {t0 : Nat} {i1 : Int32} {h : ab_HP} {r : Int32} (ht0 : (ab_shp t0).1 = 0) (hf : f_X11_care t0 i1 h = some r) : ab_T mX11_care (d + 2) 0 0 0 0 0 [some (va_rf (some t0)), some (.int i1), none, none] [] h (ab_Pi r h) := by
  unfold f_X11_care at hf
  refine ab_aload_n (x := _) (pc2 := 1) dX11_care_0 rfl rfl ?_
  refine ab_iload_n (pc2 := 2) dX11_care_1 rfl rfl ?_
  obtain ⟨w1, ew1, hf⟩ := ab_bind hf
  refine ab_callV (pc2 := 5) (st := []) rfl ht0 (by decide) (m_X11_shelfAt (d := (d + 1)) ht0 ew1) mf_X11_shelfAt tw_93 tw_92 ts_X11_shelfAt (Or.inl (by decide +kernel)) dX11_care_2 rfl (by omega) (Nat.le_refl _) (Nat.le_refl _) rfl (Nat.le_of_ble_eq_true rfl) (fun v u hp => ?_)
  obtain ⟨rfl, rfl, T2⟩ := hp
  show ab_T _ _ _ _ 0 0 5 _ (va_rf _ :: []) _ _
  refine ab_astore_n (pc2 := 6) (lo2 := [some (va_rf _), some (.int _), some (va_rf _), none]) dX11_care_5 rfl (by decide) rfl ?_
  refine ab_aload_n (x := _) (pc2 := 7) dX11_care_6 rfl rfl ?_
  refine ab_nnul (tgt := 12) (pc2 := 10) dX11_care_7 (by decide) rfl hf (fun hq3 hf => ?_) (fun q3 hq3 hf => ?_)
  · refine ab_iconst (pc2 := 11) (v := (-1)) dX11_care_10 rfl ab_k_iconst_m1 ?_
    cases Option.some.inj hf
    exact ab_retI dX11_care_11 (Or.inl rfl) (Nat.le_refl _) (Nat.le_refl _) ⟨rfl, rfl⟩
  · refine ab_aload_n (x := _) (pc2 := 13) dX11_care_12 rfl rfl ?_
    refine ab_getR (pc2 := 16) hq3 (T2 q3 hq3) fa_X11_290 dX11_care_13 rfl (fun T4 => ?_)
    refine ab_astore_n (pc2 := 17) (lo2 := [some (va_rf _), some (.int _), some (va_rf _), some (va_rf _)]) dX11_care_16 rfl (by decide) rfl ?_
    refine ab_aload_n (x := _) (pc2 := 18) dX11_care_17 rfl rfl ?_
    refine ab_nnul (tgt := 28) (pc2 := 21) dX11_care_18 (by decide) rfl hf (fun hq5 hf => ?_) (fun q5 hq5 hf => ?_)
    · refine ab_aload_n (x := _) (pc2 := 22) dX11_care_21 rfl rfl ?_
      obtain ⟨w6, ew6, hf⟩ := ab_bind hf
      refine ab_callV (pc2 := 25) (st := []) hq3 (T2 q3 hq3) (by decide) (m_X6_deedRefusal (d := (d + 0)) (T2 q3 hq3) ew6) mf_X6_deedRefusal tw_344 tw_343 ts_X6_deedRefusal (Or.inl (by decide +kernel)) dX11_care_22 rfl (by omega) (Nat.le_refl _) (Nat.le_refl _) rfl (Nat.le_of_ble_eq_true rfl) (fun v u hp => ?_)
      obtain ⟨rfl, rfl⟩ := hp
      show ab_T _ _ _ _ 0 0 25 _ (.int _ :: []) _ _
      refine ab_goto (tgt := 32) dX11_care_25 (by decide) ?_
      cases Option.some.inj hf
      exact ab_retI dX11_care_32 (Or.inl rfl) (Nat.le_refl _) (Nat.le_refl _) ⟨rfl, rfl⟩
    · refine ab_aload_n (x := _) (pc2 := 29) dX11_care_28 rfl rfl ?_
      refine ab_getI (pc2 := 32) hq5 (T4 q5 hq5) fa_X11_297 (by decide) dX11_care_29 rfl ?_
      cases Option.some.inj hf
      exact ab_retI dX11_care_32 (Or.inl rfl) (Nat.le_refl _) (Nat.le_refl _) ⟨rfl, rfl⟩
set_option maxHeartbeats 4000000 in
set_option maxRecDepth 100000 in
theorem m_X11_care {d : Nat} {t0 : Nat} {i1 : Int32} {h : ab_HP} {r : Int32} (ht0 : (ab_shp t0).1 = 0) (hf : f_X11_care t0 i1 h = some r) : ab_MET mX11_care (d + 2) 0 0 [va_rf (some t0), .int i1] h (ab_Pi r h) := ab_met (by decide +kernel) (by decide +kernel) (Nat.le_of_ble_eq_true rfl) rfl (x_X11_care ht0 hf)
