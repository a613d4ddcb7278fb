set_option maxHeartbeats 4000000 in
set_option maxRecDepth 100000 in
theorem x_X11_init_l84 {d : Nat} {t0 : Nat} {r : ab_HP} (ht0 : (ab_shp t0).1 = 0) : ∀ (n : Nat) (i1 : Int32) (h : ab_HP) (c s : Nat), c + n * 2 + 0 ≤ 32 → s + n * 104 + 0 ≤ 1541 →  f_X11_init_l84 t0 n i1 h = some r → ab_T mX11_init (d + 2) 32 1541 c s 84 [some (va_rf (some t0)), some (.int i1)] [] h (ab_Pv r) := by
  intro n
  induction n with
  | zero =>
    intro i1 h c s hc hs hf
    rw [f_X11_init_l84] at hf
    cases hf
  | succ n ih =>
    intro i1 h c s hc hs hf
    rw [f_X11_init_l84] at hf
    refine ab_iload_n (pc2 := 85) dX11_init_84 rfl rfl ?_
    refine ab_aload_n (x := _) (pc2 := 86) dX11_init_85 rfl rfl ?_
    refine ab_getR (pc2 := 89) rfl ht0 fa_X11_31 dX11_init_86 rfl (fun T29 => ?_)
    obtain ⟨q30, hq30, hf⟩ := ab_bind hf
    refine ab_alen (pc2 := 90) hq30 (Or.inr (Or.inr (T29 q30 hq30))) dX11_init_89 rfl ?_
    refine ab_icmp_ge (tgt := 112) (pc2 := 93) dX11_init_90 (by decide) rfl hf (fun c31 hf => ?_) (fun c31 hf => ?_)
    · cases Option.some.inj hf
      exact ab_retV dX11_init_112 rfl (by omega) (by omega) ⟨rfl, rfl⟩
    · refine ab_aload_n (x := _) (pc2 := 94) dX11_init_93 rfl rfl ?_
      refine ab_getR (pc2 := 97) rfl ht0 fa_X11_31 dX11_init_94 rfl (fun T32 => ?_)
      refine ab_iload_n (pc2 := 98) dX11_init_97 rfl rfl ?_
      obtain ⟨b33, hf⟩ := ab_guard hf
      obtain ⟨h34, eh34, hf⟩ := ab_let_x hf
      refine ab_new (pc2 := 101) nf_X11_29 b33 (by omega) (by omega) dX11_init_98 rfl ?_
      refine ab_topH eh34 ?_
      refine ab_dup (pc2 := 102) dX11_init_101 rfl (ab_rf1 _) ?_
      obtain ⟨w35, ew35, hf⟩ := ab_bind hf
      refine ab_callIN (pc2 := 105) (st := [_, _, _]) (m_X6_init (d := (d + 0)) b33 ew35) mf_X6_init rfl rfl tn_X11_45 tw_14 dX11_init_102 rfl (by omega) (by omega) (by omega) rfl (Nat.le_of_ble_eq_true rfl) (ab_kPv ?_)
      obtain ⟨q36, hq36, hf⟩ := ab_bind hf
      obtain ⟨b37, hf⟩ := ab_guard hf
      obtain ⟨h38, eh38, hf⟩ := ab_let_x hf
      refine ab_aast (pc2 := 106) hq36 (T32 q36 hq36) (Or.inr rfl) (ab_ty1 b33) (ab_in_vp b37) dX11_init_105 rfl ?_
      refine ab_topH eh38 ?_
      refine ab_iinc (pc2 := 109) (v := _ + 1) (lo2 := [some (va_rf _), some (.int _)]) dX11_init_106 rfl rfl rfl (by decide) rfl ?_
      refine ab_goto (tgt := 84) dX11_init_109 (by decide) ?_
      exact ab_weak (ih _ _ _ _ (by omega) (by omega) hf) (ab_leS (ab_leS ab_le0))
set_option maxHeartbeats 4000000 in
set_option maxRecDepth 100000 in
theorem x_X11_init {d : Nat} {t0 : Nat} {h : ab_HP} {r : ab_HP} (ht0 : (ab_shp t0).1 = 0) (hf : f_X11_init t0 h = some r) : ab_T mX11_init (d + 2) 32 1541 0 0 0 [some (va_rf (some t0)), none] [] h (ab_Pv r) := by
  unfold f_X11_init at hf
  refine ab_aload_n (x := _) (pc2 := 1) dX11_init_0 rfl rfl ?_
  refine ab_objInit (pc2 := 4) rfl tw_10 tw_4 tw_obj (by omega) (Nat.le_of_ble_eq_true rfl) dX11_init_1 rfl ?_
  refine ab_aload_n (x := _) (pc2 := 5) dX11_init_4 rfl rfl ?_
  obtain ⟨b1, hf⟩ := ab_guard hf
  obtain ⟨h2, eh2, hf⟩ := ab_let_x hf
  refine ab_new (pc2 := 8) nf_X11_7 b1 (by omega) (by omega) dX11_init_5 rfl ?_
  refine ab_topH eh2 ?_
  refine ab_dup (pc2 := 9) dX11_init_8 rfl (ab_rf1 _) ?_
  obtain ⟨w3, ew3, hf⟩ := ab_bind hf
  refine ab_callIN (pc2 := 12) (st := [_, _]) (m_X9_init (d := (d + 0)) b1 ew3) mf_X9_init rfl rfl tn_X11_9 tw_11 dX11_init_9 rfl (by omega) (by omega) (by omega) rfl (Nat.le_of_ble_eq_true rfl) (ab_kPv ?_)
  obtain ⟨h4, eh4, hf⟩ := ab_let_x hf
  refine ab_putR (pc2 := 15) rfl ht0 fa_X11_10 (ab_ty1 b1) (fun _ => rfl) dX11_init_12 rfl ?_
  refine ab_topH eh4 ?_
  refine ab_aload_n (x := _) (pc2 := 16) dX11_init_15 rfl rfl ?_
  obtain ⟨b5, hf⟩ := ab_guard hf
  obtain ⟨h6, eh6, hf⟩ := ab_let_x hf
  refine ab_new (pc2 := 19) nf_X11_7 b5 (by omega) (by omega) dX11_init_16 rfl ?_
  refine ab_topH eh6 ?_
  refine ab_dup (pc2 := 20) dX11_init_19 rfl (ab_rf1 _) ?_
  obtain ⟨w7, ew7, hf⟩ := ab_bind hf
  refine ab_callIN (pc2 := 23) (st := [_, _]) (m_X9_init (d := (d + 0)) b5 ew7) mf_X9_init rfl rfl tn_X11_9 tw_11 dX11_init_20 rfl (by omega) (by omega) (by omega) rfl (Nat.le_of_ble_eq_true rfl) (ab_kPv ?_)
  obtain ⟨h8, eh8, hf⟩ := ab_let_x hf
  refine ab_putR (pc2 := 26) rfl ht0 fa_X11_16 (ab_ty1 b5) (fun _ => rfl) dX11_init_23 rfl ?_
  refine ab_topH eh8 ?_
  refine ab_aload_n (x := _) (pc2 := 27) dX11_init_26 rfl rfl ?_
  obtain ⟨b9, hf⟩ := ab_guard hf
  obtain ⟨h10, eh10, hf⟩ := ab_let_x hf
  refine ab_new (pc2 := 30) nf_X11_7 b9 (by omega) (by omega) dX11_init_27 rfl ?_
  refine ab_topH eh10 ?_
  refine ab_dup (pc2 := 31) dX11_init_30 rfl (ab_rf1 _) ?_
  obtain ⟨w11, ew11, hf⟩ := ab_bind hf
  refine ab_callIN (pc2 := 34) (st := [_, _]) (m_X9_init (d := (d + 0)) b9 ew11) mf_X9_init rfl rfl tn_X11_9 tw_11 dX11_init_31 rfl (by omega) (by omega) (by omega) rfl (Nat.le_of_ble_eq_true rfl) (ab_kPv ?_)
  obtain ⟨h12, eh12, hf⟩ := ab_let_x hf
  refine ab_putR (pc2 := 37) rfl ht0 fa_X11_19 (ab_ty1 b9) (fun _ => rfl) dX11_init_34 rfl ?_
  refine ab_topH eh12 ?_
  refine ab_aload_n (x := _) (pc2 := 38) dX11_init_37 rfl rfl ?_
  obtain ⟨b13, hf⟩ := ab_guard hf
  obtain ⟨h14, eh14, hf⟩ := ab_let_x hf
  refine ab_new (pc2 := 41) nf_X11_22 b13 (by omega) (by omega) dX11_init_38 rfl ?_
  refine ab_topH eh14 ?_
  refine ab_dup (pc2 := 42) dX11_init_41 rfl (ab_rf1 _) ?_
  obtain ⟨w15, ew15, hf⟩ := ab_bind hf
  refine ab_callIN (pc2 := 45) (st := [_, _]) (m_X10_init (d := (d + 0)) b13 ew15) mf_X10_init rfl rfl tn_X11_24 tw_12 dX11_init_42 rfl (by omega) (by omega) (by omega) rfl (Nat.le_of_ble_eq_true rfl) (ab_kPv ?_)
  obtain ⟨h16, eh16, hf⟩ := ab_let_x hf
  refine ab_putR (pc2 := 48) rfl ht0 fa_X11_25 (ab_ty1 b13) (fun _ => rfl) dX11_init_45 rfl ?_
  refine ab_topH eh16 ?_
  refine ab_aload_n (x := _) (pc2 := 49) dX11_init_48 rfl rfl ?_
  refine ab_bipush (pc2 := 51) (v := 8) dX11_init_49 rfl ab_k_bipush_8 ?_
  obtain ⟨b17, hf⟩ := ab_guard hf
  obtain ⟨h18, eh18, hf⟩ := ab_let_x hf
  refine ab_newaR (pc2 := 54) tw_13 (Or.inr ⟨rfl, rfl⟩) b17 (by decide) (by decide) (by decide) (by omega) (by omega) dX11_init_51 rfl ?_
  refine ab_topH eh18 ?_
  obtain ⟨h19, eh19, hf⟩ := ab_let_x hf
  refine ab_putR (pc2 := 57) rfl ht0 fa_X11_31 (ab_ty1 (congrArg Prod.fst b17)) (fun _ => rfl) dX11_init_54 rfl ?_
  refine ab_topH eh19 ?_
  refine ab_aload_n (x := _) (pc2 := 58) dX11_init_57 rfl rfl ?_
  refine ab_iconst (pc2 := 59) (v := 5) dX11_init_58 rfl ab_k_iconst_5 ?_
  obtain ⟨b20, hf⟩ := ab_guard hf
  obtain ⟨h21, eh21, hf⟩ := ab_let_x hf
  refine ab_newaI (pc2 := 61) tw_8 b20 (by decide) (by decide) (by decide) (by omega) (by omega) dX11_init_59 rfl ?_
  refine ab_topH eh21 ?_
  obtain ⟨h22, eh22, hf⟩ := ab_let_x hf
  refine ab_putR (pc2 := 64) rfl ht0 fa_X11_35 (ab_ty1 (congrArg Prod.fst b20)) (fun _ => rfl) dX11_init_61 rfl ?_
  refine ab_topH eh22 ?_
  refine ab_aload_n (x := _) (pc2 := 65) dX11_init_64 rfl rfl ?_
  refine ab_sipush (pc2 := 68) (v := 241) dX11_init_65 rfl ab_k_sipush_241 ?_
  obtain ⟨b23, hf⟩ := ab_guard hf
  obtain ⟨h24, eh24, hf⟩ := ab_let_x hf
  refine ab_newaI (pc2 := 70) tw_8 b23 (by decide) (by decide) (by decide) (by omega) (by omega) dX11_init_68 rfl ?_
  refine ab_topH eh24 ?_
  obtain ⟨h25, eh25, hf⟩ := ab_let_x hf
  refine ab_putR (pc2 := 73) rfl ht0 fa_X11_39 (ab_ty1 (congrArg Prod.fst b23)) (fun _ => rfl) dX11_init_70 rfl ?_
  refine ab_topH eh25 ?_
  refine ab_aload_n (x := _) (pc2 := 74) dX11_init_73 rfl rfl ?_
  refine ab_sipush (pc2 := 77) (v := 241) dX11_init_74 rfl ab_k_sipush_241 ?_
  obtain ⟨b26, hf⟩ := ab_guard hf
  obtain ⟨h27, eh27, hf⟩ := ab_let_x hf
  refine ab_newaI (pc2 := 79) tw_8 b26 (by decide) (by decide) (by decide) (by omega) (by omega) dX11_init_77 rfl ?_
  refine ab_topH eh27 ?_
  obtain ⟨h28, eh28, hf⟩ := ab_let_x hf
  refine ab_putR (pc2 := 82) rfl ht0 fa_X11_42 (ab_ty1 (congrArg Prod.fst b26)) (fun _ => rfl) dX11_init_79 rfl ?_
  refine ab_topH eh28 ?_
  refine ab_iconst (pc2 := 83) (v := 0) dX11_init_82 rfl ab_k_iconst_0 ?_
  refine ab_istore_n (pc2 := 84) (lo2 := [some (va_rf _), some (.int _)]) dX11_init_83 rfl (by decide) rfl ?_
  exact ab_weak (x_X11_init_l84 ht0 _ _ _ _ _ (by omega) (by omega) hf) (ab_leS (ab_leS ab_le0))
set_option maxHeartbeats 4000000 in
set_option maxRecDepth 100000 in
theorem m_X11_init {d : Nat} {t0 : Nat} {h : ab_HP} {r : ab_HP} (ht0 : (ab_shp t0).1 = 0) (hf : f_X11_init t0 h = some r) : ab_MET mX11_init (d + 2) 32 1541 [va_rf (some t0)] h (ab_Pv r) := ab_met (by decide +kernel) (by decide +kernel) (Nat.le_of_ble_eq_true rfl) rfl (x_X11_init ht0 hf)
set_option maxHeartbeats 4000000 in
set_option maxRecDepth 100000 in
theorem x_X11_shelfAt {d : Nat} {t0 : Nat} {i1 : Int32} {h : ab_HP} {r : (Option Nat)} (ht0 : (ab_shp t0).1 = 0) (hf : f_X11_shelfAt t0 i1 h = some r) : ab_T mX11_shelfAt (d + 0) 0 0 0 0 0 [some (va_rf (some t0)), some (.int i1)] [] h (ab_Pr 3 r h) := by
  unfold f_X11_shelfAt at hf
  refine ab_iload_n (pc2 := 1) dX11_shelfAt_0 rfl rfl ?_
  refine ab_if_lt (tgt := 13) (pc2 := 4) dX11_shelfAt_1 (by decide) rfl hf (fun c1 hf => ?_) (fun c1 hf => ?_)
  · refine ab_null (pc2 := 14) dX11_shelfAt_13 rfl ?_
    refine ab_goto (tgt := 23) dX11_shelfAt_14 (by decide) ?_
    cases Option.some.inj hf
    exact ab_retA dX11_shelfAt_23 ⟨_, rfl⟩ (Nat.le_refl _) (Nat.le_refl _) ⟨rfl, rfl, (fun z hz => by cases hz)⟩
  · refine ab_iload_n (pc2 := 5) dX11_shelfAt_4 rfl rfl ?_
    refine ab_aload_n (x := _) (pc2 := 6) dX11_shelfAt_5 rfl rfl ?_
    refine ab_getR (pc2 := 9) rfl ht0 fa_X11_31 dX11_shelfAt_6 rfl (fun T2 => ?_)
    obtain ⟨q3, hq3, hf⟩ := ab_bind hf
    refine ab_alen (pc2 := 10) hq3 (Or.inr (Or.inr (T2 q3 hq3))) dX11_shelfAt_9 rfl ?_
    refine ab_icmp_lt (tgt := 17) (pc2 := 13) dX11_shelfAt_10 (by decide) rfl hf (fun c4 hf => ?_) (fun c4 hf => ?_)
    · refine ab_aload_n (x := _) (pc2 := 18) dX11_shelfAt_17 rfl rfl ?_
      refine ab_getR (pc2 := 21) rfl ht0 fa_X11_31 dX11_shelfAt_18 rfl (fun T5 => ?_)
      refine ab_iload_n (pc2 := 22) dX11_shelfAt_21 rfl rfl ?_
      obtain ⟨q6, hq6, hf⟩ := ab_bind hf
      obtain ⟨b7, hf⟩ := ab_guard hf
      refine ab_aald (pc2 := 23) hq6 (T5 q6 hq6) (Or.inr rfl) (ab_in_vp b7) dX11_shelfAt_22 rfl (fun T8 => ?_)
      cases Option.some.inj hf
      exact ab_retA dX11_shelfAt_23 ⟨_, rfl⟩ (Nat.le_refl _) (Nat.le_refl _) ⟨rfl, rfl, T8⟩
    · refine ab_null (pc2 := 14) dX11_shelfAt_13 rfl ?_
      refine ab_goto (tgt := 23) dX11_shelfAt_14 (by decide) ?_
      cases Option.some.inj hf
      exact ab_retA dX11_shelfAt_23 ⟨_, rfl⟩ (Nat.le_refl _) (Nat.le_refl _) ⟨rfl, rfl, (fun z hz => by cases hz)⟩
set_option maxHeartbeats 4000000 in
set_option maxRecDepth 100000 in
theorem m_X11_shelfAt {d : Nat} {t0 : Nat} {i1 : Int32} {h : ab_HP} {r : (Option Nat)} (ht0 : (ab_shp t0).1 = 0) (hf : f_X11_shelfAt t0 i1 h = some r) : ab_MET mX11_shelfAt (d + 0) 0 0 [va_rf (some t0), .int i1] h (ab_Pr 3 r h) := ab_met (by decide +kernel) (by decide +kernel) (Nat.le_of_ble_eq_true rfl) rfl (x_X11_shelfAt ht0 hf)
set_option maxHeartbeats 4000000 in
set_option maxRecDepth 100000 in
theorem x_X11_town {d : Nat} {t0 : Nat} {i1 : Int32} {h : ab_HP} {r : (Int32 × ab_HP)} (ht0 : (ab_shp t0).1 = 0) (hf : f_X11_town t0 i1 h = some r) : ab_T mX11_town (d + 7) 101 1414 0 0 0 [some (va_rf (some t0)), some (.int i1), none, none, none] [] h (ab_Pi r.1 r.2) := by
  unfold f_X11_town at hf
  refine ab_aload_n (x := _) (pc2 := 1) dX11_town_0 rfl rfl ?_
  refine ab_iload_n (pc2 := 2) dX11_town_1 rfl rfl ?_
  obtain ⟨w1, ew1, hf⟩ := ab_bind hf
  refine ab_callV (pc2 := 5) (st := []) rfl ht0 (by decide) (m_X11_shelfAt (d := (d + 6)) ht0 ew1) mf_X11_shelfAt tw_93 tw_92 ts_X11_shelfAt (Or.inl (by decide +kernel)) dX11_town_2 rfl (by omega) (by omega) (by omega) rfl (Nat.le_of_ble_eq_true rfl) (ab_kPr fun T2 => ?_)
  refine ab_astore_n (pc2 := 6) (lo2 := [some (va_rf _), some (.int _), some (va_rf _), none, none]) dX11_town_5 rfl (by decide) rfl ?_
  refine ab_aload_n (x := _) (pc2 := 7) dX11_town_6 rfl rfl ?_
  refine ab_nnul (tgt := 12) (pc2 := 10) dX11_town_7 (by decide) rfl hf (fun hq3 hf => ?_) (fun q3 hq3 hf => ?_)
  · refine ab_iconst (pc2 := 11) (v := (-1)) dX11_town_10 rfl ab_k_iconst_m1 ?_
    cases Option.some.inj hf
    exact ab_retI dX11_town_11 (Or.inl rfl) (by omega) (by omega) ⟨rfl, rfl⟩
  · refine ab_aload_n (x := _) (pc2 := 13) dX11_town_12 rfl rfl ?_
    obtain ⟨w4, ew4, hf⟩ := ab_bind hf
    refine ab_callV (pc2 := 16) (st := []) hq3 (T2 q3 hq3) (by decide) (m_X6_bytesRefusal (d := (d + 5)) (T2 q3 hq3) ew4) mf_X6_bytesRefusal tw_95 tw_94 ts_X6_bytesRefusal (Or.inl (by decide +kernel)) dX11_town_13 rfl (by omega) (by omega) (by omega) rfl (Nat.le_of_ble_eq_true rfl) (ab_kPi ?_)
    refine ab_istore_n (pc2 := 17) (lo2 := [some (va_rf _), some (.int _), some (va_rf _), some (.int _), none]) dX11_town_16 rfl (by decide) (ab_st1_rf (j := 2) rfl rfl) ?_
    refine ab_iload_n (pc2 := 18) dX11_town_17 rfl rfl ?_
    refine ab_if_eq (tgt := 23) (pc2 := 21) dX11_town_18 (by decide) rfl hf (fun c5 hf => ?_) (fun c5 hf => ?_)
    · refine ab_aload_n (x := _) (pc2 := 24) dX11_town_23 rfl rfl ?_
      refine ab_getR (pc2 := 27) rfl ht0 fa_X11_19 dX11_town_24 rfl (fun T6 => ?_)
      refine ab_aload_n (x := _) (pc2 := 28) dX11_town_27 rfl rfl ?_
      refine ab_getR (pc2 := 31) rfl ht0 fa_X11_10 dX11_town_28 rfl (fun T7 => ?_)
      obtain ⟨q8, hq8, hf⟩ := ab_bind hf
      obtain ⟨w9, ew9, hf⟩ := ab_bind hf
      refine ab_callV (pc2 := 34) (st := []) hq8 (T6 q8 hq8) (by decide) (m_X9_become (d := (d + 5)) (T6 q8 hq8) T7 ew9) mf_X9_become tw_97 tw_96 ts_X9_become (Or.inl (by decide +kernel)) dX11_town_31 rfl (by omega) (by omega) (by omega) rfl (Nat.le_of_ble_eq_true rfl) (ab_kPv ?_)
      refine ab_aload_n (x := _) (pc2 := 35) dX11_town_34 rfl rfl ?_
      refine ab_getR (pc2 := 38) rfl ht0 fa_X11_19 dX11_town_35 rfl (fun T10 => ?_)
      refine ab_aload_n (x := _) (pc2 := 39) dX11_town_38 rfl rfl ?_
      obtain ⟨q11, hq11, hf⟩ := ab_bind hf
      obtain ⟨w12, ew12, hf⟩ := ab_bind hf
      refine ab_callV (pc2 := 42) (st := []) hq11 (T10 q11 hq11) (by decide) (m_X9_read (d := (d + 0)) (T10 q11 hq11) T2 ew12) mf_X9_read tw_99 tw_98 ts_X9_read (Or.inl (by decide +kernel)) dX11_town_39 rfl (by omega) (by omega) (by omega) rfl (Nat.le_of_ble_eq_true rfl) (ab_kPi ?_)
      refine ab_istore (pc2 := 44) (lo2 := [some (va_rf _), some (.int _), some (va_rf _), some (.int _), some (.int _)]) dX11_town_42 rfl (by decide) rfl ?_
      refine ab_iload (pc2 := 46) dX11_town_44 rfl rfl ?_
      refine ab_if_le (tgt := 60) (pc2 := 49) dX11_town_46 (by decide) rfl hf (fun c13 hf => ?_) (fun c13 hf => ?_)
      · refine ab_iload (pc2 := 62) dX11_town_60 rfl rfl ?_
        cases Option.some.inj hf
        exact ab_retI dX11_town_62 (Or.inl rfl) (by omega) (by omega) ⟨rfl, rfl⟩
      · refine ab_aload_n (x := _) (pc2 := 50) dX11_town_49 rfl rfl ?_
        refine ab_getR (pc2 := 53) rfl ht0 fa_X11_10 dX11_town_50 rfl (fun T14 => ?_)
        refine ab_aload_n (x := _) (pc2 := 54) dX11_town_53 rfl rfl ?_
        refine ab_getR (pc2 := 57) rfl ht0 fa_X11_19 dX11_town_54 rfl (fun T15 => ?_)
        obtain ⟨q16, hq16, hf⟩ := ab_bind hf
        obtain ⟨w17, ew17, hf⟩ := ab_bind hf
        refine ab_callV (pc2 := 60) (st := []) hq16 (T14 q16 hq16) (by decide) (m_X9_become (d := (d + 5)) (T14 q16 hq16) T15 ew17) mf_X9_become tw_97 tw_96 ts_X9_become (Or.inl (by decide +kernel)) dX11_town_57 rfl (by omega) (by omega) (by omega) rfl (Nat.le_of_ble_eq_true rfl) (ab_kPv ?_)
        refine ab_iload (pc2 := 62) dX11_town_60 rfl rfl ?_
        cases Option.some.inj hf
        exact ab_retI dX11_town_62 (Or.inl rfl) (by omega) (by omega) ⟨rfl, rfl⟩
    · refine ab_iload_n (pc2 := 22) dX11_town_21 rfl rfl ?_
      cases Option.some.inj hf
      exact ab_retI dX11_town_22 (Or.inl rfl) (by omega) (by omega) ⟨rfl, rfl⟩
set_option maxHeartbeats 4000000 in
set_option maxRecDepth 100000 in
theorem m_X11_town {d : Nat} {t0 : Nat} {i1 : Int32} {h : ab_HP} {r : (Int32 × ab_HP)} (ht0 : (ab_shp t0).1 = 0) (hf : f_X11_town t0 i1 h = some r) : ab_MET mX11_town (d + 7) 101 1414 [va_rf (some t0), .int i1] h (ab_Pi r.1 r.2) := ab_met (by decide +kernel) (by decide +kernel) (Nat.le_of_ble_eq_true rfl) rfl (x_X11_town ht0 hf)
set_option maxHeartbeats 4000000 in
set_option maxRecDepth 100000 in
theorem x_X11_deed {d : Nat} {t0 : Nat} {i1 : Int32} {i2 : Int32} {h : ab_HP} {r : Int32} (ht0 : (ab_shp t0).1 = 0) (hf : f_X11_deed t0 i1 i2 h = some r) : ab_T mX11_deed (d + 1) 0 0 0 0 0 [some (va_rf (some t0)), some (.int i1), some (.int i2), none] [] h (ab_Pi r h) := by
  unfold f_X11_deed at hf
  refine ab_aload_n (x := _) (pc2 := 1) dX11_deed_0 rfl rfl ?_
  refine ab_getR (pc2 := 4) rfl ht0 fa_X11_10 dX11_deed_1 rfl (fun T1 => ?_)
  refine ab_iload_n (pc2 := 5) dX11_deed_4 rfl rfl ?_
  obtain ⟨q2, hq2, hf⟩ := ab_bind hf
  obtain ⟨w3, ew3, hf⟩ := ab_bind hf
  refine ab_callV (pc2 := 8) (st := []) hq2 (T1 q2 hq2) (by decide) (m_X9_deedAt (d := (d + 0)) (T1 q2 hq2) ew3) mf_X9_deedAt tw_127 tw_18 ts_X9_deedAt (Or.inl (by decide +kernel)) dX11_deed_5 rfl (by omega) (Nat.le_refl _) (Nat.le_refl _) rfl (Nat.le_of_ble_eq_true rfl) (ab_kPr fun T4 => ?_)
  refine ab_astore_n (pc2 := 9) (lo2 := [some (va_rf _), some (.int _), some (.int _), some (va_rf _)]) dX11_deed_8 rfl (by decide) rfl ?_
  refine ab_aload_n (x := _) (pc2 := 10) dX11_deed_9 rfl rfl ?_
  refine ab_nnul (tgt := 15) (pc2 := 13) dX11_deed_10 (by decide) rfl hf (fun hq5 hf => ?_) (fun q5 hq5 hf => ?_)
  · refine ab_iconst (pc2 := 14) (v := (-1)) dX11_deed_13 rfl ab_k_iconst_m1 ?_
    cases Option.some.inj hf
    exact ab_retI dX11_deed_14 (Or.inl rfl) (Nat.le_refl _) (Nat.le_refl _) ⟨rfl, rfl⟩
  · refine ab_iload_n (pc2 := 16) dX11_deed_15 rfl rfl ?_
    rcases ab_cas hf with ⟨s6, hf⟩ | ⟨s6, hf⟩
    · refine ab_tswK (tgt := 64) (off := 48) dX11_deed_16 s6 (by decide) (by decide) (by decide +kernel) (by decide) ?_
      refine ab_aload_n (x := _) (pc2 := 65) dX11_deed_64 rfl rfl ?_
      refine ab_getI (pc2 := 68) hq5 (T4 q5 hq5) fa_X11_66 (by decide) dX11_deed_65 rfl ?_
      cases Option.some.inj hf
      exact ab_retI dX11_deed_68 (Or.inl rfl) (Nat.le_refl _) (Nat.le_refl _) ⟨rfl, rfl⟩
    rcases ab_cas hf with ⟨s7, hf⟩ | ⟨s7, hf⟩
    · refine ab_tswK (tgt := 69) (off := 53) dX11_deed_16 s7 (by decide) (by decide) (by decide +kernel) (by decide) ?_
      refine ab_aload_n (x := _) (pc2 := 70) dX11_deed_69 rfl rfl ?_
      refine ab_getI (pc2 := 73) hq5 (T4 q5 hq5) fa_X11_72 (by decide) dX11_deed_70 rfl ?_
      cases Option.some.inj hf
      exact ab_retI dX11_deed_73 (Or.inl rfl) (Nat.le_refl _) (Nat.le_refl _) ⟨rfl, rfl⟩
    rcases ab_cas hf with ⟨s8, hf⟩ | ⟨s8, hf⟩
    · refine ab_tswK (tgt := 74) (off := 58) dX11_deed_16 s8 (by decide) (by decide) (by decide +kernel) (by decide) ?_
      refine ab_aload_n (x := _) (pc2 := 75) dX11_deed_74 rfl rfl ?_
      refine ab_getI (pc2 := 78) hq5 (T4 q5 hq5) fa_X11_75 (by decide) dX11_deed_75 rfl ?_
      cases Option.some.inj hf
      exact ab_retI dX11_deed_78 (Or.inl rfl) (Nat.le_refl _) (Nat.le_refl _) ⟨rfl, rfl⟩
    rcases ab_cas hf with ⟨s9, hf⟩ | ⟨s9, hf⟩
    · refine ab_tswK (tgt := 79) (off := 63) dX11_deed_16 s9 (by decide) (by decide) (by decide +kernel) (by decide) ?_
      refine ab_aload_n (x := _) (pc2 := 80) dX11_deed_79 rfl rfl ?_
      refine ab_getI (pc2 := 83) hq5 (T4 q5 hq5) fa_X11_78 (by decide) dX11_deed_80 rfl ?_
      cases Option.some.inj hf
      exact ab_retI dX11_deed_83 (Or.inl rfl) (Nat.le_refl _) (Nat.le_refl _) ⟨rfl, rfl⟩
    rcases ab_cas hf with ⟨s10, hf⟩ | ⟨s10, hf⟩
    · refine ab_tswK (tgt := 84) (off := 68) dX11_deed_16 s10 (by decide) (by decide) (by decide +kernel) (by decide) ?_
      refine ab_aload_n (x := _) (pc2 := 85) dX11_deed_84 rfl rfl ?_
      refine ab_getI (pc2 := 88) hq5 (T4 q5 hq5) fa_X11_81 (by decide) dX11_deed_85 rfl ?_
      cases Option.some.inj hf
      exact ab_retI dX11_deed_88 (Or.inl rfl) (Nat.le_refl _) (Nat.le_refl _) ⟨rfl, rfl⟩
    rcases ab_cas hf with ⟨s11, hf⟩ | ⟨s11, hf⟩
    · refine ab_tswK (tgt := 89) (off := 73) dX11_deed_16 s11 (by decide) (by decide) (by decide +kernel) (by decide) ?_
      refine ab_aload_n (x := _) (pc2 := 90) dX11_deed_89 rfl rfl ?_
      refine ab_getI (pc2 := 93) hq5 (T4 q5 hq5) fa_X11_84 (by decide) dX11_deed_90 rfl ?_
      cases Option.some.inj hf
      exact ab_retI dX11_deed_93 (Or.inl rfl) (Nat.le_refl _) (Nat.le_refl _) ⟨rfl, rfl⟩
    rcases ab_cas hf with ⟨s12, hf⟩ | ⟨s12, hf⟩
    · refine ab_tswK (tgt := 94) (off := 78) dX11_deed_16 s12 (by decide) (by decide) (by decide +kernel) (by decide) ?_
      refine ab_aload_n (x := _) (pc2 := 95) dX11_deed_94 rfl rfl ?_
      refine ab_getI (pc2 := 98) hq5 (T4 q5 hq5) fa_X11_87 (by decide) dX11_deed_95 rfl ?_
      cases Option.some.inj hf
      exact ab_retI dX11_deed_98 (Or.inl rfl) (Nat.le_refl _) (Nat.le_refl _) ⟨rfl, rfl⟩
    rcases ab_cas hf with ⟨s13, hf⟩ | ⟨s13, hf⟩
    · refine ab_tswK (tgt := 99) (off := 83) dX11_deed_16 s13 (by decide) (by decide) (by decide +kernel) (by decide) ?_
      refine ab_aload_n (x := _) (pc2 := 100) dX11_deed_99 rfl rfl ?_
      refine ab_getI (pc2 := 103) hq5 (T4 q5 hq5) fa_X11_90 (by decide) dX11_deed_100 rfl ?_
      refine ab_if_eq (tgt := 110) (pc2 := 106) dX11_deed_103 (by decide) rfl hf (fun c14 hf => ?_) (fun c14 hf => ?_)
      · refine ab_iconst (pc2 := 111) (v := 0) dX11_deed_110 rfl ab_k_iconst_0 ?_
        cases Option.some.inj hf
        exact ab_retI dX11_deed_111 (Or.inl rfl) (Nat.le_refl _) (Nat.le_refl _) ⟨rfl, rfl⟩
      · refine ab_iconst (pc2 := 107) (v := 1) dX11_deed_106 rfl ab_k_iconst_1 ?_
        refine ab_goto (tgt := 111) dX11_deed_107 (by decide) ?_
        cases Option.some.inj hf
        exact ab_retI dX11_deed_111 (Or.inl rfl) (Nat.le_refl _) (Nat.le_refl _) ⟨rfl, rfl⟩
    have s6n := lv_neT s6 (by decide : (0 : Int32).toInt = 0)
    have s7n := lv_neT s7 (by decide : (1 : Int32).toInt = 1)
    have s8n := lv_neT s8 (by decide : (2 : Int32).toInt = 2)
    have s9n := lv_neT s9 (by decide : (3 : Int32).toInt = 3)
    have s10n := lv_neT s10 (by decide : (4 : Int32).toInt = 4)
    have s11n := lv_neT s11 (by decide : (5 : Int32).toInt = 5)
    have s12n := lv_neT s12 (by decide : (6 : Int32).toInt = 6)
    have s13n := lv_neT s13 (by decide : (7 : Int32).toInt = 7)
    refine ab_tswOut (tgt := 112) dX11_deed_16 (by omega) (by decide) ?_
    refine ab_iconst (pc2 := 113) (v := (-1)) dX11_deed_112 rfl ab_k_iconst_m1 ?_
    cases Option.some.inj hf
    exact ab_retI dX11_deed_113 (Or.inl rfl) (Nat.le_refl _) (Nat.le_refl _) ⟨rfl, rfl⟩
set_option maxHeartbeats 4000000 in
set_option maxRecDepth 100000 in
theorem m_X11_deed {d : Nat} {t0 : Nat} {i1 : Int32} {i2 : Int32} {h : ab_HP} {r : Int32} (ht0 : (ab_shp t0).1 = 0) (hf : f_X11_deed t0 i1 i2 h = some r) : ab_MET mX11_deed (d + 1) 0 0 [va_rf (some t0), .int i1, .int i2] h (ab_Pi r h) := ab_met (by decide +kernel) (by decide +kernel) (Nat.le_of_ble_eq_true rfl) rfl (x_X11_deed ht0 hf)
set_option maxHeartbeats 4000000 in
set_option maxRecDepth 100000 in
theorem x_X11_marks {d : Nat} {t0 : Nat} {h : ab_HP} {r : Int32} (ht0 : (ab_shp t0).1 = 0) (hf : f_X11_marks t0 h = some r) : ab_T mX11_marks (d + 0) 0 0 0 0 0 [some (va_rf (some t0))] [] h (ab_Pi r h) := by
  unfold f_X11_marks at hf
  refine ab_aload_n (x := _) (pc2 := 1) dX11_marks_0 rfl rfl ?_
  refine ab_getR (pc2 := 4) rfl ht0 fa_X11_10 dX11_marks_1 rfl (fun T1 => ?_)
  obtain ⟨q2, hq2, hf⟩ := ab_bind hf
  refine ab_getI (pc2 := 7) hq2 (T1 q2 hq2) fa_X11_94 (by decide) dX11_marks_4 rfl ?_
  cases Option.some.inj hf
  exact ab_retI dX11_marks_7 (Or.inl rfl) (Nat.le_refl _) (Nat.le_refl _) ⟨rfl, rfl⟩
set_option maxHeartbeats 4000000 in
set_option maxRecDepth 100000 in
theorem m_X11_marks {d : Nat} {t0 : Nat} {h : ab_HP} {r : Int32} (ht0 : (ab_shp t0).1 = 0) (hf : f_X11_marks t0 h = some r) : ab_MET mX11_marks (d + 0) 0 0 [va_rf (some t0)] h (ab_Pi r h) := ab_met (by decide +kernel) (by decide +kernel) (Nat.le_of_ble_eq_true rfl) rfl (x_X11_marks ht0 hf)
set_option maxHeartbeats 4000000 in
set_option maxRecDepth 100000 in
theorem x_X11_state {d : Nat} {t0 : Nat} {i1 : Int32} {h : ab_HP} {r : Int32} (ht0 : (ab_shp t0).1 = 0) (hf : f_X11_state t0 i1 h = some r) : ab_T mX11_state (d + 0) 0 0 0 0 0 [some (va_rf (some t0)), some (.int i1)] [] h (ab_Pi r h) := by
  unfold f_X11_state at hf
  refine ab_iload_n (pc2 := 1) dX11_state_0 rfl rfl ?_
  rcases ab_cas hf with ⟨s1, hf⟩ | ⟨s1, hf⟩
  · refine ab_tswK (tgt := 32) (off := 31) dX11_state_1 s1 (by decide) (by decide) (by decide +kernel) (by decide) ?_
    refine ab_aload_n (x := _) (pc2 := 33) dX11_state_32 rfl rfl ?_
    refine ab_getR (pc2 := 36) rfl ht0 fa_X11_10 dX11_state_33 rfl (fun T2 => ?_)
    obtain ⟨q3, hq3, hf⟩ := ab_bind hf
    refine ab_getI (pc2 := 39) hq3 (T2 q3 hq3) fa_X11_97 (by decide) dX11_state_36 rfl ?_
    cases Option.some.inj hf
    exact ab_retI dX11_state_39 (Or.inl rfl) (Nat.le_refl _) (Nat.le_refl _) ⟨rfl, rfl⟩
  rcases ab_cas hf with ⟨s4, hf⟩ | ⟨s4, hf⟩
  · refine ab_tswK (tgt := 40) (off := 39) dX11_state_1 s4 (by decide) (by decide) (by decide +kernel) (by decide) ?_
    refine ab_aload_n (x := _) (pc2 := 41) dX11_state_40 rfl rfl ?_
    refine ab_getR (pc2 := 44) rfl ht0 fa_X11_10 dX11_state_41 rfl (fun T5 => ?_)
    obtain ⟨q6, hq6, hf⟩ := ab_bind hf
    refine ab_getI (pc2 := 47) hq6 (T5 q6 hq6) fa_X11_100 (by decide) dX11_state_44 rfl ?_
    cases Option.some.inj hf
    exact ab_retI dX11_state_47 (Or.inl rfl) (Nat.le_refl _) (Nat.le_refl _) ⟨rfl, rfl⟩
  rcases ab_cas hf with ⟨s7, hf⟩ | ⟨s7, hf⟩
  · refine ab_tswK (tgt := 48) (off := 47) dX11_state_1 s7 (by decide) (by decide) (by decide +kernel) (by decide) ?_
    refine ab_aload_n (x := _) (pc2 := 49) dX11_state_48 rfl rfl ?_
    refine ab_getR (pc2 := 52) rfl ht0 fa_X11_10 dX11_state_49 rfl (fun T8 => ?_)
    obtain ⟨q9, hq9, hf⟩ := ab_bind hf
    refine ab_getI (pc2 := 55) hq9 (T8 q9 hq9) fa_X11_103 (by decide) dX11_state_52 rfl ?_
    cases Option.some.inj hf
    exact ab_retI dX11_state_55 (Or.inl rfl) (Nat.le_refl _) (Nat.le_refl _) ⟨rfl, rfl⟩
  rcases ab_cas hf with ⟨s10, hf⟩ | ⟨s10, hf⟩
  · refine ab_tswK (tgt := 56) (off := 55) dX11_state_1 s10 (by decide) (by decide) (by decide +kernel) (by decide) ?_
    refine ab_aload_n (x := _) (pc2 := 57) dX11_state_56 rfl rfl ?_
    refine ab_getR (pc2 := 60) rfl ht0 fa_X11_10 dX11_state_57 rfl (fun T11 => ?_)
    obtain ⟨q12, hq12, hf⟩ := ab_bind hf
    refine ab_getI (pc2 := 63) hq12 (T11 q12 hq12) fa_X11_106 (by decide) dX11_state_60 rfl ?_
    cases Option.some.inj hf
    exact ab_retI dX11_state_63 (Or.inl rfl) (Nat.le_refl _) (Nat.le_refl _) ⟨rfl, rfl⟩
  have s1n := lv_neT s1 (by decide : (0 : Int32).toInt = 0)
  have s4n := lv_neT s4 (by decide : (1 : Int32).toInt = 1)
  have s7n := lv_neT s7 (by decide : (2 : Int32).toInt = 2)
  have s10n := lv_neT s10 (by decide : (3 : Int32).toInt = 3)
  refine ab_tswOut (tgt := 64) dX11_state_1 (by omega) (by decide) ?_
  refine ab_iconst (pc2 := 65) (v := (-1)) dX11_state_64 rfl ab_k_iconst_m1 ?_
  cases Option.some.inj hf
  exact ab_retI dX11_state_65 (Or.inl rfl) (Nat.le_refl _) (Nat.le_refl _) ⟨rfl, rfl⟩
set_option maxHeartbeats 4000000 in
set_option maxRecDepth 100000 in
theorem m_X11_state {d : Nat} {t0 : Nat} {i1 : Int32} {h : ab_HP} {r : Int32} (ht0 : (ab_shp t0).1 = 0) (hf : f_X11_state t0 i1 h = some r) : ab_MET mX11_state (d + 0) 0 0 [va_rf (some t0), .int i1] h (ab_Pi r h) := ab_met (by decide +kernel) (by decide +kernel) (Nat.le_of_ble_eq_true rfl) rfl (x_X11_state ht0 hf)
set_option maxHeartbeats 4000000 in
set_option maxRecDepth 100000 in
theorem x_X11_rise {d : Nat} {t0 : Nat} {h : ab_HP} {r : Int32} (ht0 : (ab_shp t0).1 = 0) (hf : f_X11_rise t0 h = some r) : ab_T mX11_rise (d + 0) 0 0 0 0 0 [some (va_rf (some t0))] [] h (ab_Pi r h) := by
  unfold f_X11_rise at hf
  refine ab_aload_n (x := _) (pc2 := 1) dX11_rise_0 rfl rfl ?_
  refine ab_getR (pc2 := 4) rfl ht0 fa_X11_10 dX11_rise_1 rfl (fun T1 => ?_)
  obtain ⟨q2, hq2, hf⟩ := ab_bind hf
  refine ab_getI (pc2 := 7) hq2 (T1 q2 hq2) fa_X11_109 (by decide) dX11_rise_4 rfl ?_
  cases Option.some.inj hf
  exact ab_retI dX11_rise_7 (Or.inl rfl) (Nat.le_refl _) (Nat.le_refl _) ⟨rfl, rfl⟩
set_option maxHeartbeats 4000000 in
set_option maxRecDepth 100000 in
theorem m_X11_rise {d : Nat} {t0 : Nat} {h : ab_HP} {r : Int32} (ht0 : (ab_shp t0).1 = 0) (hf : f_X11_rise t0 h = some r) : ab_MET mX11_rise (d + 0) 0 0 [va_rf (some t0)] h (ab_Pi r h) := ab_met (by decide +kernel) (by decide +kernel) (Nat.le_of_ble_eq_true rfl) rfl (x_X11_rise ht0 hf)
set_option maxHeartbeats 4000000 in
set_option maxRecDepth 100000 in
theorem x_X11_set {d : Nat} {t0 : Nat} {i1 : Int32} {i2 : Int32} {h : ab_HP} {r : (Int32 × ab_HP)} (ht0 : (ab_shp t0).1 = 0) (hf : f_X11_set t0 i1 i2 h = some r) : ab_T mX11_set (d + 1) 0 0 0 0 0 [some (va_rf (some t0)), some (.int i1), some (.int i2)] [] h (ab_Pi r.1 r.2) := by
  unfold f_X11_set at hf
  refine ab_iload_n (pc2 := 1) dX11_set_0 rfl rfl ?_
  rcases ab_cas hf with ⟨s1, hf⟩ | ⟨s1, hf⟩
  · refine ab_tswK (tgt := 28) (off := 27) dX11_set_1 s1 (by decide) (by decide) (by decide +kernel) (by decide) ?_
    refine ab_aload_n (x := _) (pc2 := 29) dX11_set_28 rfl rfl ?_
    refine ab_getR (pc2 := 32) rfl ht0 fa_X11_10 dX11_set_29 rfl (fun T2 => ?_)
    refine ab_iload_n (pc2 := 33) dX11_set_32 rfl rfl ?_
    obtain ⟨q3, hq3, hf⟩ := ab_bind hf
    obtain ⟨w4, ew4, hf⟩ := ab_bind hf
    refine ab_callV (pc2 := 36) (st := []) hq3 (T2 q3 hq3) (by decide) (m_X9_changeLaw (d := (d + 0)) (T2 q3 hq3) ew4) mf_X9_changeLaw tw_140 tw_84 ts_X9_changeLaw (Or.inl (by decide +kernel)) dX11_set_33 rfl (by omega) (Nat.le_refl _) (Nat.le_refl _) rfl (Nat.le_of_ble_eq_true rfl) (ab_kPi ?_)
    cases Option.some.inj hf
    exact ab_retI dX11_set_36 (Or.inl rfl) (Nat.le_refl _) (Nat.le_refl _) ⟨rfl, rfl⟩
  rcases ab_cas hf with ⟨s5, hf⟩ | ⟨s5, hf⟩
  · refine ab_tswK (tgt := 37) (off := 36) dX11_set_1 s5 (by decide) (by decide) (by decide +kernel) (by decide) ?_
    refine ab_aload_n (x := _) (pc2 := 38) dX11_set_37 rfl rfl ?_
    refine ab_getR (pc2 := 41) rfl ht0 fa_X11_10 dX11_set_38 rfl (fun T6 => ?_)
    refine ab_iload_n (pc2 := 42) dX11_set_41 rfl rfl ?_
    obtain ⟨q7, hq7, hf⟩ := ab_bind hf
    obtain ⟨w8, ew8, hf⟩ := ab_bind hf
    refine ab_callV (pc2 := 45) (st := []) hq7 (T6 q7 hq7) (by decide) (m_X9_changeNail (d := (d + 0)) (T6 q7 hq7) ew8) mf_X9_changeNail tw_141 tw_72 ts_X9_changeNail (Or.inl (by decide +kernel)) dX11_set_42 rfl (by omega) (Nat.le_refl _) (Nat.le_refl _) rfl (Nat.le_of_ble_eq_true rfl) (ab_kPi ?_)
    cases Option.some.inj hf
    exact ab_retI dX11_set_45 (Or.inl rfl) (Nat.le_refl _) (Nat.le_refl _) ⟨rfl, rfl⟩
  rcases ab_cas hf with ⟨s9, hf⟩ | ⟨s9, hf⟩
  · refine ab_tswK (tgt := 46) (off := 45) dX11_set_1 s9 (by decide) (by decide) (by decide +kernel) (by decide) ?_
    refine ab_aload_n (x := _) (pc2 := 47) dX11_set_46 rfl rfl ?_
    refine ab_getR (pc2 := 50) rfl ht0 fa_X11_10 dX11_set_47 rfl (fun T10 => ?_)
    refine ab_iload_n (pc2 := 51) dX11_set_50 rfl rfl ?_
    obtain ⟨q11, hq11, hf⟩ := ab_bind hf
    obtain ⟨w12, ew12, hf⟩ := ab_bind hf
    refine ab_callV (pc2 := 54) (st := []) hq11 (T10 q11 hq11) (by decide) (m_X9_changeCoins (d := (d + 0)) (T10 q11 hq11) ew12) mf_X9_changeCoins tw_142 tw_74 ts_X9_changeCoins (Or.inl (by decide +kernel)) dX11_set_51 rfl (by omega) (Nat.le_refl _) (Nat.le_refl _) rfl (Nat.le_of_ble_eq_true rfl) (ab_kPi ?_)
    cases Option.some.inj hf
    exact ab_retI dX11_set_54 (Or.inl rfl) (Nat.le_refl _) (Nat.le_refl _) ⟨rfl, rfl⟩
  have s1n := lv_neT s1 (by decide : (0 : Int32).toInt = 0)
  have s5n := lv_neT s5 (by decide : (1 : Int32).toInt = 1)
  have s9n := lv_neT s9 (by decide : (2 : Int32).toInt = 2)
  refine ab_tswOut (tgt := 55) dX11_set_1 (by omega) (by decide) ?_
  refine ab_iconst (pc2 := 56) (v := (-1)) dX11_set_55 rfl ab_k_iconst_m1 ?_
  cases Option.some.inj hf
  exact ab_retI dX11_set_56 (Or.inl rfl) (Nat.le_refl _) (Nat.le_refl _) ⟨rfl, rfl⟩
set_option maxHeartbeats 4000000 in
set_option maxRecDepth 100000 in
theorem m_X11_set {d : Nat} {t0 : Nat} {i1 : Int32} {i2 : Int32} {h : ab_HP} {r : (Int32 × ab_HP)} (ht0 : (ab_shp t0).1 = 0) (hf : f_X11_set t0 i1 i2 h = some r) : ab_MET mX11_set (d + 1) 0 0 [va_rf (some t0), .int i1, .int i2] h (ab_Pi r.1 r.2) := ab_met (by decide +kernel) (by decide +kernel) (Nat.le_of_ble_eq_true rfl) rfl (x_X11_set ht0 hf)
set_option maxHeartbeats 4000000 in
set_option maxRecDepth 100000 in
theorem x_X11_may {d : Nat} {t0 : Nat} {i1 : Int32} {h : ab_HP} {r : Int32} (ht0 : (ab_shp t0).1 = 0) (hf : f_X11_may t0 i1 h = some r) : ab_T mX11_may (d + 2) 0 0 0 0 0 [some (va_rf (some t0)), some (.int i1), none] [] h (ab_Pi r h) := by
  unfold f_X11_may at hf
  refine ab_aload_n (x := _) (pc2 := 1) dX11_may_0 rfl rfl ?_
  refine ab_getR (pc2 := 4) rfl ht0 fa_X11_10 dX11_may_1 rfl (fun T1 => ?_)
  refine ab_iload_n (pc2 := 5) dX11_may_4 rfl rfl ?_
  obtain ⟨q2, hq2, hf⟩ := ab_bind hf
  obtain ⟨w3, ew3, hf⟩ := ab_bind hf
  refine ab_callV (pc2 := 8) (st := []) hq2 (T1 q2 hq2) (by decide) (m_X9_deedAt (d := (d + 1)) (T1 q2 hq2) ew3) mf_X9_deedAt tw_127 tw_18 ts_X9_deedAt (Or.inl (by decide +kernel)) dX11_may_5 rfl (by omega) (Nat.le_refl _) (Nat.le_refl _) rfl (Nat.le_of_ble_eq_true rfl) (ab_kPr fun T4 => ?_)
  refine ab_astore_n (pc2 := 9) (lo2 := [some (va_rf _), some (.int _), some (va_rf _)]) dX11_may_8 rfl (by decide) rfl ?_
  refine ab_aload_n (x := _) (pc2 := 10) dX11_may_9 rfl rfl ?_
  refine ab_nnul (tgt := 15) (pc2 := 13) dX11_may_10 (by decide) rfl hf (fun hq5 hf => ?_) (fun q5 hq5 hf => ?_)
  · refine ab_iconst (pc2 := 14) (v := (-1)) dX11_may_13 rfl ab_k_iconst_m1 ?_
    cases Option.some.inj hf
    exact ab_retI dX11_may_14 (Or.inl rfl) (Nat.le_refl _) (Nat.le_refl _) ⟨rfl, rfl⟩
  · refine ab_aload_n (x := _) (pc2 := 16) dX11_may_15 rfl rfl ?_
    refine ab_aload_n (x := _) (pc2 := 17) dX11_may_16 rfl rfl ?_
    refine ab_getR (pc2 := 20) rfl ht0 fa_X11_10 dX11_may_17 rfl (fun T6 => ?_)
    obtain ⟨q7, hq7, hf⟩ := ab_bind hf
    refine ab_getI (pc2 := 23) hq7 (T6 q7 hq7) fa_X11_94 (by decide) dX11_may_20 rfl ?_
    refine ab_aload_n (x := _) (pc2 := 24) dX11_may_23 rfl rfl ?_
    refine ab_getR (pc2 := 27) rfl ht0 fa_X11_10 dX11_may_24 rfl (fun T8 => ?_)
    obtain ⟨q9, hq9, hf⟩ := ab_bind hf
    refine ab_getI (pc2 := 30) hq9 (T8 q9 hq9) fa_X11_97 (by decide) dX11_may_27 rfl ?_
    obtain ⟨w10, ew10, hf⟩ := ab_bind hf
    refine ab_callV (pc2 := 33) (st := []) hq5 (T4 q5 hq5) (by decide) (m_X1_mayBeDone (d := (d + 0)) (T4 q5 hq5) ew10) mf_X1_mayBeDone tw_151 tw_149 ts_X1_mayBeDone (Or.inr tw_150) dX11_may_30 rfl (by omega) (Nat.le_refl _) (Nat.le_refl _) rfl (Nat.le_of_ble_eq_true rfl) (ab_kPb fun z11 => ?_)
    refine ab_if_eq (tgt := 40) (pc2 := 36) dX11_may_33 (by decide) rfl hf (fun c12 hf => ?_) (fun c12 hf => ?_)
    · refine ab_iconst (pc2 := 41) (v := 0) dX11_may_40 rfl ab_k_iconst_0 ?_
      cases Option.some.inj hf
      exact ab_retI dX11_may_41 (Or.inl rfl) (Nat.le_refl _) (Nat.le_refl _) ⟨rfl, rfl⟩
    · refine ab_iconst (pc2 := 37) (v := 1) dX11_may_36 rfl ab_k_iconst_1 ?_
      refine ab_goto (tgt := 41) dX11_may_37 (by decide) ?_
      cases Option.some.inj hf
      exact ab_retI dX11_may_41 (Or.inl rfl) (Nat.le_refl _) (Nat.le_refl _) ⟨rfl, rfl⟩
set_option maxHeartbeats 4000000 in
set_option maxRecDepth 100000 in
theorem m_X11_may {d : Nat} {t0 : Nat} {i1 : Int32} {h : ab_HP} {r : Int32} (ht0 : (ab_shp t0).1 = 0) (hf : f_X11_may t0 i1 h = some r) : ab_MET mX11_may (d + 2) 0 0 [va_rf (some t0), .int i1] h (ab_Pi r h) := ab_met (by decide +kernel) (by decide +kernel) (Nat.le_of_ble_eq_true rfl) rfl (x_X11_may ht0 hf)
set_option maxHeartbeats 4000000 in
set_option maxRecDepth 100000 in
theorem x_X11_areNails {d : Nat} {i0 : Int32} {h : ab_HP} {r : Int32}  (hf : f_X11_areNails i0 h = some r) : ab_T mX11_areNails (d + 0) 0 0 0 0 0 [some (.int i0)] [] h (ab_Pb r h) := by
  unfold f_X11_areNails at hf
  refine ab_iload_n (pc2 := 1) dX11_areNails_0 rfl rfl ?_
  refine ab_if_lt (tgt := 15) (pc2 := 4) dX11_areNails_1 (by decide) rfl hf (fun c1 hf => ?_) (fun c1 hf => ?_)
  · refine ab_iconst (pc2 := 16) (v := 0) dX11_areNails_15 rfl ab_k_iconst_0 ?_
    cases Option.some.inj hf
    exact ab_retI dX11_areNails_16 (Or.inr ⟨rfl, (Or.inl rfl)⟩) (Nat.le_refl _) (Nat.le_refl _) ⟨rfl, rfl, (Or.inl rfl)⟩
  · refine ab_iload_n (pc2 := 5) dX11_areNails_4 rfl rfl ?_
    refine ab_sipush (pc2 := 8) (v := 255) dX11_areNails_5 rfl ab_k_sipush_255 ?_
    refine ab_icmp_gt (tgt := 15) (pc2 := 11) dX11_areNails_8 (by decide) rfl hf (fun c2 hf => ?_) (fun c2 hf => ?_)
    · refine ab_iconst (pc2 := 16) (v := 0) dX11_areNails_15 rfl ab_k_iconst_0 ?_
      cases Option.some.inj hf
      exact ab_retI dX11_areNails_16 (Or.inr ⟨rfl, (Or.inl rfl)⟩) (Nat.le_refl _) (Nat.le_refl _) ⟨rfl, rfl, (Or.inl rfl)⟩
    · refine ab_iconst (pc2 := 12) (v := 1) dX11_areNails_11 rfl ab_k_iconst_1 ?_
      refine ab_goto (tgt := 16) dX11_areNails_12 (by decide) ?_
      cases Option.some.inj hf
      exact ab_retI dX11_areNails_16 (Or.inr ⟨rfl, (Or.inr rfl)⟩) (Nat.le_refl _) (Nat.le_refl _) ⟨rfl, rfl, (Or.inr rfl)⟩
set_option maxHeartbeats 4000000 in
set_option maxRecDepth 100000 in
theorem m_X11_areNails {d : Nat} {i0 : Int32} {h : ab_HP} {r : Int32}  (hf : f_X11_areNails i0 h = some r) : ab_MET mX11_areNails (d + 0) 0 0 [.int i0] h (ab_Pb r h) := ab_met (by decide +kernel) (by decide +kernel) (Nat.le_of_ble_eq_true rfl) rfl (x_X11_areNails  hf)
set_option maxHeartbeats 4000000 in
set_option maxRecDepth 100000 in
theorem x_X11_listRefusal_l38 {d : Nat} {t0 : Nat} {r : Int32} (ht0 : (ab_shp t0).1 = 0) : ∀ (n : Nat) (i2 : Option Nat) (i4 : Int32) (h : ab_HP), (∀ z, i2 = some z → (ab_shp z).1 = 3) → f_X11_listRefusal_l38 t0 n i2 i4 h = some r → ab_T mX11_listRefusal (d + 2) 0 0 0 0 38 [some (va_rf (some t0)), none, some (va_rf i2), none, some (.int i4)] [] h (ab_Pi r h) := by
  intro n
  induction n with
  | zero =>
    intro i2 i4 h T_i2 hf
    rw [f_X11_listRefusal_l38] at hf
    cases hf
  | succ n ih =>
    intro i2 i4 h T_i2 hf
    rw [f_X11_listRefusal_l38] at hf
    refine ab_iload (pc2 := 40) dX11_listRefusal_38 rfl rfl ?_
    refine ab_aload_n (x := _) (pc2 := 41) dX11_listRefusal_40 rfl rfl ?_
    obtain ⟨q7, hq7, hf⟩ := ab_bind hf
    refine ab_getI (pc2 := 44) hq7 (T_i2 q7 hq7) fa_X11_182 (by decide) dX11_listRefusal_41 rfl ?_
    refine ab_icmp_ge (tgt := 72) (pc2 := 47) dX11_listRefusal_44 (by decide) rfl hf (fun c8 hf => ?_) (fun c8 hf => ?_)
    · refine ab_iconst (pc2 := 73) (v := 0) dX11_listRefusal_72 rfl ab_k_iconst_0 ?_
      cases Option.some.inj hf
      exact ab_retI dX11_listRefusal_73 (Or.inl rfl) (Nat.le_refl _) (Nat.le_refl _) ⟨rfl, rfl⟩
    · refine ab_aload_n (x := _) (pc2 := 48) dX11_listRefusal_47 rfl rfl ?_
      refine ab_getR (pc2 := 51) rfl ht0 fa_X11_10 dX11_listRefusal_48 rfl (fun T9 => ?_)
      refine ab_aload_n (x := _) (pc2 := 52) dX11_listRefusal_51 rfl rfl ?_
      refine ab_iload (pc2 := 54) dX11_listRefusal_52 rfl rfl ?_
      obtain ⟨w10, ew10, hf⟩ := ab_bind hf
      refine ab_callV (pc2 := 57) (st := [_]) hq7 (T_i2 q7 hq7) (by decide) (m_X6_read (d := (d + 0)) (T_i2 q7 hq7) ew10) mf_X6_read tw_154 tw_24 ts_X6_read (Or.inl (by decide +kernel)) dX11_listRefusal_54 rfl (by omega) (Nat.le_refl _) (Nat.le_refl _) rfl (Nat.le_of_ble_eq_true rfl) (ab_kPi ?_)
      obtain ⟨q11, hq11, hf⟩ := ab_bind hf
      obtain ⟨w12, ew12, hf⟩ := ab_bind hf
      refine ab_callV (pc2 := 60) (st := []) hq11 (T9 q11 hq11) (by decide) (m_X9_deedAt (d := (d + 1)) (T9 q11 hq11) ew12) mf_X9_deedAt tw_127 tw_18 ts_X9_deedAt (Or.inl (by decide +kernel)) dX11_listRefusal_57 rfl (by omega) (Nat.le_refl _) (Nat.le_refl _) rfl (Nat.le_of_ble_eq_true rfl) (ab_kPr fun T13 => ?_)
      refine ab_nnul (tgt := 66) (pc2 := 63) dX11_listRefusal_60 (by decide) rfl hf (fun hq14 hf => ?_) (fun q14 hq14 hf => ?_)
      · refine ab_bipush (pc2 := 65) (v := (-13)) dX11_listRefusal_63 rfl ab_k_bipush_m13 ?_
        cases Option.some.inj hf
        exact ab_retI dX11_listRefusal_65 (Or.inl rfl) (Nat.le_refl _) (Nat.le_refl _) ⟨rfl, rfl⟩
      · refine ab_iinc (pc2 := 69) (v := _ + 1) (lo2 := [some (va_rf _), none, some (va_rf _), none, some (.int _)]) dX11_listRefusal_66 rfl rfl rfl (by decide) rfl ?_
        refine ab_goto (tgt := 38) dX11_listRefusal_69 (by decide) ?_
        exact ab_weak (ih _ _ _ T_i2 hf) (ab_leS (ab_leN (ab_leS (ab_leN (ab_leS ab_le0)))))
set_option maxHeartbeats 4000000 in
set_option maxRecDepth 100000 in
theorem x_X11_listRefusal {d : Nat} {t0 : Nat} {i1 : Int32} {h : ab_HP} {r : Int32} (ht0 : (ab_shp t0).1 = 0) (hf : f_X11_listRefusal t0 i1 h = some r) : ab_T mX11_listRefusal (d + 2) 0 0 0 0 0 [some (va_rf (some t0)), some (.int i1), none, none, none] [] h (ab_Pi r h) := by
  unfold f_X11_listRefusal at hf
  refine ab_aload_n (x := _) (pc2 := 1) dX11_listRefusal_0 rfl rfl ?_
  refine ab_iload_n (pc2 := 2) dX11_listRefusal_1 rfl rfl ?_
  obtain ⟨w1, ew1, hf⟩ := ab_bind hf
  refine ab_callV (pc2 := 5) (st := []) rfl ht0 (by decide) (m_X11_shelfAt (d := (d + 1)) ht0 ew1) mf_X11_shelfAt tw_93 tw_92 ts_X11_shelfAt (Or.inl (by decide +kernel)) dX11_listRefusal_2 rfl (by omega) (Nat.le_refl _) (Nat.le_refl _) rfl (Nat.le_of_ble_eq_true rfl) (ab_kPr fun T2 => ?_)
  refine ab_astore_n (pc2 := 6) (lo2 := [some (va_rf _), some (.int _), some (va_rf _), none, none]) dX11_listRefusal_5 rfl (by decide) rfl ?_
  refine ab_aload_n (x := _) (pc2 := 7) dX11_listRefusal_6 rfl rfl ?_
  refine ab_nnul (tgt := 12) (pc2 := 10) dX11_listRefusal_7 (by decide) rfl hf (fun hq3 hf => ?_) (fun q3 hq3 hf => ?_)
  · refine ab_iconst (pc2 := 11) (v := (-1)) dX11_listRefusal_10 rfl ab_k_iconst_m1 ?_
    cases Option.some.inj hf
    exact ab_retI dX11_listRefusal_11 (Or.inl rfl) (Nat.le_refl _) (Nat.le_refl _) ⟨rfl, rfl⟩
  · refine ab_aload_n (x := _) (pc2 := 13) dX11_listRefusal_12 rfl rfl ?_
    obtain ⟨w4, ew4, hf⟩ := ab_bind hf
    refine ab_callV (pc2 := 16) (st := []) hq3 (T2 q3 hq3) (by decide) (m_X6_bytesRefusal (d := (d + 0)) (T2 q3 hq3) ew4) mf_X6_bytesRefusal tw_95 tw_94 ts_X6_bytesRefusal (Or.inl (by decide +kernel)) dX11_listRefusal_13 rfl (by omega) (Nat.le_refl _) (Nat.le_refl _) rfl (Nat.le_of_ble_eq_true rfl) (ab_kPi ?_)
    refine ab_istore_n (pc2 := 17) (lo2 := [some (va_rf _), some (.int _), some (va_rf _), some (.int _), none]) dX11_listRefusal_16 rfl (by decide) (ab_st1_rf (j := 2) rfl rfl) ?_
    refine ab_iload_n (pc2 := 18) dX11_listRefusal_17 rfl rfl ?_
    refine ab_if_eq (tgt := 23) (pc2 := 21) dX11_listRefusal_18 (by decide) rfl hf (fun c5 hf => ?_) (fun c5 hf => ?_)
    · refine ab_aload_n (x := _) (pc2 := 24) dX11_listRefusal_23 rfl rfl ?_
      refine ab_getI (pc2 := 27) hq3 (T2 q3 hq3) fa_X11_182 (by decide) dX11_listRefusal_24 rfl ?_
      refine ab_bipush (pc2 := 29) (v := 8) dX11_listRefusal_27 rfl ab_k_bipush_8 ?_
      refine ab_icmp_le (tgt := 35) (pc2 := 32) dX11_listRefusal_29 (by decide) rfl hf (fun c6 hf => ?_) (fun c6 hf => ?_)
      · refine ab_iconst (pc2 := 36) (v := 0) dX11_listRefusal_35 rfl ab_k_iconst_0 ?_
        refine ab_istore (pc2 := 38) (lo2 := [some (va_rf _), some (.int _), some (va_rf _), some (.int _), some (.int _)]) dX11_listRefusal_36 rfl (by decide) rfl ?_
        exact ab_weak (x_X11_listRefusal_l38 ht0 _ _ _ _ T2 hf) (ab_leS (ab_leN (ab_leS (ab_leN (ab_leS ab_le0)))))
      · refine ab_bipush (pc2 := 34) (v := (-13)) dX11_listRefusal_32 rfl ab_k_bipush_m13 ?_
        cases Option.some.inj hf
        exact ab_retI dX11_listRefusal_34 (Or.inl rfl) (Nat.le_refl _) (Nat.le_refl _) ⟨rfl, rfl⟩
    · refine ab_iload_n (pc2 := 22) dX11_listRefusal_21 rfl rfl ?_
      cases Option.some.inj hf
      exact ab_retI dX11_listRefusal_22 (Or.inl rfl) (Nat.le_refl _) (Nat.le_refl _) ⟨rfl, rfl⟩
set_option maxHeartbeats 4000000 in
set_option maxRecDepth 100000 in
theorem m_X11_listRefusal {d : Nat} {t0 : Nat} {i1 : Int32} {h : ab_HP} {r : Int32} (ht0 : (ab_shp t0).1 = 0) (hf : f_X11_listRefusal t0 i1 h = some r) : ab_MET mX11_listRefusal (d + 2) 0 0 [va_rf (some t0), .int i1] h (ab_Pi r h) := ab_met (by decide +kernel) (by decide +kernel) (Nat.le_of_ble_eq_true rfl) rfl (x_X11_listRefusal ht0 hf)
set_option maxHeartbeats 4000000 in
set_option maxRecDepth 100000 in
theorem x_X11_takeList_l36 {d : Nat} {t0 : Nat} {r : (Int32 × ab_HP)} (ht0 : (ab_shp t0).1 = 0) : ∀ (n : Nat) (i3 : Option Nat) (i4 : Int32) (h : ab_HP), (∀ z, i3 = some z → (ab_shp z).1 = 3) → f_X11_takeList_l36 t0 n i3 i4 h = some r → ab_T mX11_takeList (d + 3) 0 0 0 0 36 [some (va_rf (some t0)), none, none, some (va_rf i3), some (.int i4)] [] h (ab_Pi r.1 r.2) := by
  intro n
  induction n with
  | zero =>
    intro i3 i4 h T_i3 hf
    rw [f_X11_takeList_l36] at hf
    cases hf
  | succ n ih =>
    intro i3 i4 h T_i3 hf
    rw [f_X11_takeList_l36] at hf
    refine ab_iload (pc2 := 38) dX11_takeList_36 rfl rfl ?_
    refine ab_aload_n (x := _) (pc2 := 39) dX11_takeList_38 rfl rfl ?_
    obtain ⟨q10, hq10, hf⟩ := ab_bind hf
    refine ab_getI (pc2 := 42) hq10 (T_i3 q10 hq10) fa_X11_182 (by decide) dX11_takeList_39 rfl ?_
    refine ab_icmp_ge (tgt := 71) (pc2 := 45) dX11_takeList_42 (by decide) rfl hf (fun c11 hf => ?_) (fun c11 hf => ?_)
    · refine ab_iconst (pc2 := 72) (v := 0) dX11_takeList_71 rfl ab_k_iconst_0 ?_
      cases Option.some.inj hf
      exact ab_retI dX11_takeList_72 (Or.inl rfl) (Nat.le_refl _) (Nat.le_refl _) ⟨rfl, rfl⟩
    · refine ab_aload_n (x := _) (pc2 := 46) dX11_takeList_45 rfl rfl ?_
      refine ab_getR (pc2 := 49) rfl ht0 fa_X11_25 dX11_takeList_46 rfl (fun T12 => ?_)
      refine ab_aload_n (x := _) (pc2 := 50) dX11_takeList_49 rfl rfl ?_
      refine ab_getR (pc2 := 53) rfl ht0 fa_X11_10 dX11_takeList_50 rfl (fun T13 => ?_)
      refine ab_aload_n (x := _) (pc2 := 54) dX11_takeList_53 rfl rfl ?_
      refine ab_iload (pc2 := 56) dX11_takeList_54 rfl rfl ?_
      obtain ⟨w14, ew14, hf⟩ := ab_bind hf
      refine ab_callV (pc2 := 59) (st := [_, _]) hq10 (T_i3 q10 hq10) (by decide) (m_X6_read (d := (d + 1)) (T_i3 q10 hq10) ew14) mf_X6_read tw_154 tw_24 ts_X6_read (Or.inl (by decide +kernel)) dX11_takeList_56 rfl (by omega) (Nat.le_refl _) (Nat.le_refl _) rfl (Nat.le_of_ble_eq_true rfl) (ab_kPi ?_)
      obtain ⟨q15, hq15, hf⟩ := ab_bind hf
      obtain ⟨w16, ew16, hf⟩ := ab_bind hf
      refine ab_callV (pc2 := 62) (st := [_]) hq15 (T13 q15 hq15) (by decide) (m_X9_deedAt (d := (d + 2)) (T13 q15 hq15) ew16) mf_X9_deedAt tw_127 tw_18 ts_X9_deedAt (Or.inl (by decide +kernel)) dX11_takeList_59 rfl (by omega) (Nat.le_refl _) (Nat.le_refl _) rfl (Nat.le_of_ble_eq_true rfl) (ab_kPr fun T17 => ?_)
      obtain ⟨q18, hq18, hf⟩ := ab_bind hf
      obtain ⟨w19, ew19, hf⟩ := ab_bind hf
      refine ab_callV (pc2 := 65) (st := []) hq18 (T12 q18 hq18) (by decide) (m_X10_add (d := (d + 2)) (T12 q18 hq18) T17 ew19) mf_X10_add tw_160 tw_159 ts_X10_add (Or.inl (by decide +kernel)) dX11_takeList_62 rfl (by omega) (Nat.le_refl _) (Nat.le_refl _) rfl (Nat.le_of_ble_eq_true rfl) (ab_kPv ?_)
      refine ab_iinc (pc2 := 68) (v := _ + 1) (lo2 := [some (va_rf _), none, none, some (va_rf _), some (.int _)]) dX11_takeList_65 rfl rfl rfl (by decide) (ab_st1_rf (j := 3) rfl rfl) ?_
      refine ab_goto (tgt := 36) dX11_takeList_68 (by decide) ?_
      exact ab_weak (ih _ _ _ T_i3 hf) (ab_leS (ab_leN (ab_leN (ab_leS (ab_leS ab_le0)))))
set_option maxHeartbeats 4000000 in
set_option maxRecDepth 100000 in
theorem x_X11_takeList {d : Nat} {t0 : Nat} {i1 : Int32} {h : ab_HP} {r : (Int32 × ab_HP)} (ht0 : (ab_shp t0).1 = 0) (hf : f_X11_takeList t0 i1 h = some r) : ab_T mX11_takeList (d + 3) 0 0 0 0 0 [some (va_rf (some t0)), some (.int i1), none, none, none] [] h (ab_Pi r.1 r.2) := by
  unfold f_X11_takeList at hf
  refine ab_aload_n (x := _) (pc2 := 1) dX11_takeList_0 rfl rfl ?_
  refine ab_iload_n (pc2 := 2) dX11_takeList_1 rfl rfl ?_
  obtain ⟨w1, ew1, hf⟩ := ab_bind hf
  refine ab_callV (pc2 := 5) (st := []) rfl ht0 (by decide) (m_X11_listRefusal (d := (d + 0)) ht0 ew1) mf_X11_listRefusal tw_156 tw_155 ts_X11_listRefusal (Or.inl (by decide +kernel)) dX11_takeList_2 rfl (by omega) (Nat.le_refl _) (Nat.le_refl _) rfl (Nat.le_of_ble_eq_true rfl) (ab_kPi ?_)
  refine ab_istore_n (pc2 := 6) (lo2 := [some (va_rf _), some (.int _), some (.int _), none, none]) dX11_takeList_5 rfl (by decide) rfl ?_
  refine ab_aload_n (x := _) (pc2 := 7) dX11_takeList_6 rfl rfl ?_
  refine ab_iload_n (pc2 := 8) dX11_takeList_7 rfl rfl ?_
  obtain ⟨w2, ew2, hf⟩ := ab_bind hf
  refine ab_callV (pc2 := 11) (st := []) rfl ht0 (by decide) (m_X11_shelfAt (d := (d + 2)) ht0 ew2) mf_X11_shelfAt tw_93 tw_92 ts_X11_shelfAt (Or.inl (by decide +kernel)) dX11_takeList_8 rfl (by omega) (Nat.le_refl _) (Nat.le_refl _) rfl (Nat.le_of_ble_eq_true rfl) (ab_kPr fun T3 => ?_)
  refine ab_astore_n (pc2 := 12) (lo2 := [some (va_rf _), some (.int _), some (.int _), some (va_rf _), none]) dX11_takeList_11 rfl (by decide) rfl ?_
  refine ab_iload_n (pc2 := 13) dX11_takeList_12 rfl rfl ?_
  refine ab_if_ne (tgt := 20) (pc2 := 16) dX11_takeList_13 (by decide) rfl hf (fun c4 hf => ?_) (fun c4 hf => ?_)
  · refine ab_iload_n (pc2 := 21) dX11_takeList_20 rfl rfl ?_
    cases Option.some.inj hf
    exact ab_retI dX11_takeList_21 (Or.inl rfl) (Nat.le_refl _) (Nat.le_refl _) ⟨rfl, rfl⟩
  · refine ab_aload_n (x := _) (pc2 := 17) dX11_takeList_16 rfl rfl ?_
    refine ab_nnul (tgt := 22) (pc2 := 20) dX11_takeList_17 (by decide) rfl hf (fun hq5 hf => ?_) (fun q5 hq5 hf => ?_)
    · refine ab_iload_n (pc2 := 21) dX11_takeList_20 rfl rfl ?_
      cases Option.some.inj hf
      exact ab_retI dX11_takeList_21 (Or.inl rfl) (Nat.le_refl _) (Nat.le_refl _) ⟨rfl, rfl⟩
    · refine ab_aload_n (x := _) (pc2 := 23) dX11_takeList_22 rfl rfl ?_
      refine ab_getR (pc2 := 26) rfl ht0 fa_X11_25 dX11_takeList_23 rfl (fun T6 => ?_)
      refine ab_aload_n (x := _) (pc2 := 27) dX11_takeList_26 rfl rfl ?_
      refine ab_getR (pc2 := 30) rfl ht0 fa_X11_10 dX11_takeList_27 rfl (fun T7 => ?_)
      obtain ⟨q8, hq8, hf⟩ := ab_bind hf
      obtain ⟨w9, ew9, hf⟩ := ab_bind hf
      refine ab_callV (pc2 := 33) (st := []) hq8 (T6 q8 hq8) (by decide) (m_X10_open (d := (d + 2)) (T6 q8 hq8) T7 ew9) mf_X10_open tw_158 tw_157 ts_X10_open (Or.inl (by decide +kernel)) dX11_takeList_30 rfl (by omega) (Nat.le_refl _) (Nat.le_refl _) rfl (Nat.le_of_ble_eq_true rfl) (ab_kPv ?_)
      refine ab_iconst (pc2 := 34) (v := 0) dX11_takeList_33 rfl ab_k_iconst_0 ?_
      refine ab_istore (pc2 := 36) (lo2 := [some (va_rf _), some (.int _), some (.int _), some (va_rf _), some (.int _)]) dX11_takeList_34 rfl (by decide) (ab_st1_rf (j := 3) rfl rfl) ?_
      exact ab_weak (x_X11_takeList_l36 ht0 _ _ _ _ T3 hf) (ab_leS (ab_leN (ab_leN (ab_leS (ab_leS ab_le0)))))
set_option maxHeartbeats 4000000 in
set_option maxRecDepth 100000 in
theorem m_X11_takeList {d : Nat} {t0 : Nat} {i1 : Int32} {h : ab_HP} {r : (Int32 × ab_HP)} (ht0 : (ab_shp t0).1 = 0) (hf : f_X11_takeList t0 i1 h = some r) : ab_MET mX11_takeList (d + 3) 0 0 [va_rf (some t0), .int i1] h (ab_Pi r.1 r.2) := ab_met (by decide +kernel) (by decide +kernel) (Nat.le_of_ble_eq_true rfl) rfl (x_X11_takeList ht0 hf)
set_option maxHeartbeats 4000000 in
set_option maxRecDepth 100000 in
theorem x_X11_playList {d : Nat} {t0 : Nat} {i1 : Int32} {i2 : Int32} {h : ab_HP} {r : (Int32 × ab_HP)} (ht0 : (ab_shp t0).1 = 0) (hf : f_X11_playList t0 i1 i2 h = some r) : ab_T mX11_playList (d + 5) 0 0 0 0 0 [some (va_rf (some t0)), some (.int i1), some (.int i2), none] [] h (ab_Pi r.1 r.2) := by
  unfold f_X11_playList at hf
  refine ab_iload_n (pc2 := 1) dX11_playList_0 rfl rfl ?_
  obtain ⟨w1, ew1, hf⟩ := ab_bind hf
  refine ab_callS (pc2 := 4) (st := []) (m_X11_areNails (d := (d + 4)) ew1) mf_X11_areNails tw_190 tw_191 dX11_playList_1 rfl (by omega) (Nat.le_refl _) (Nat.le_refl _) rfl (Nat.le_of_ble_eq_true rfl) (ab_kPb fun z2 => ?_)
  refine ab_if_ne (tgt := 9) (pc2 := 7) dX11_playList_4 (by decide) rfl hf (fun c3 hf => ?_) (fun c3 hf => ?_)
  · refine ab_aload_n (x := _) (pc2 := 10) dX11_playList_9 rfl rfl ?_
    refine ab_iload_n (pc2 := 11) dX11_playList_10 rfl rfl ?_
    obtain ⟨w4, ew4, hf⟩ := ab_bind hf
    refine ab_callV (pc2 := 14) (st := []) rfl ht0 (by decide) (m_X11_takeList (d := (d + 1)) ht0 ew4) mf_X11_takeList tw_193 tw_192 ts_X11_takeList (Or.inl (by decide +kernel)) dX11_playList_11 rfl (by omega) (Nat.le_refl _) (Nat.le_refl _) rfl (Nat.le_of_ble_eq_true rfl) (ab_kPi ?_)
    refine ab_istore_n (pc2 := 15) (lo2 := [some (va_rf _), some (.int _), some (.int _), some (.int _)]) dX11_playList_14 rfl (by decide) rfl ?_
    refine ab_iload_n (pc2 := 16) dX11_playList_15 rfl rfl ?_
    refine ab_if_ne (tgt := 27) (pc2 := 19) dX11_playList_16 (by decide) rfl hf (fun c5 hf => ?_) (fun c5 hf => ?_)
    · refine ab_iload_n (pc2 := 28) dX11_playList_27 rfl rfl ?_
      cases Option.some.inj hf
      exact ab_retI dX11_playList_28 (Or.inl rfl) (Nat.le_refl _) (Nat.le_refl _) ⟨rfl, rfl⟩
    · refine ab_aload_n (x := _) (pc2 := 20) dX11_playList_19 rfl rfl ?_
      refine ab_getR (pc2 := 23) rfl ht0 fa_X11_25 dX11_playList_20 rfl (fun T6 => ?_)
      refine ab_iload_n (pc2 := 24) dX11_playList_23 rfl rfl ?_
      obtain ⟨q7, hq7, hf⟩ := ab_bind hf
      obtain ⟨w8, ew8, hf⟩ := ab_bind hf
      refine ab_callV (pc2 := 27) (st := []) hq7 (T6 q7 hq7) (by decide) (m_X10_play (d := (d + 0)) (T6 q7 hq7) ew8) mf_X10_play tw_195 tw_194 ts_X10_play (Or.inl (by decide +kernel)) dX11_playList_24 rfl (by omega) (Nat.le_refl _) (Nat.le_refl _) rfl (Nat.le_of_ble_eq_true rfl) (ab_kPv ?_)
      refine ab_iload_n (pc2 := 28) dX11_playList_27 rfl rfl ?_
      cases Option.some.inj hf
      exact ab_retI dX11_playList_28 (Or.inl rfl) (Nat.le_refl _) (Nat.le_refl _) ⟨rfl, rfl⟩
  · refine ab_iconst (pc2 := 8) (v := (-1)) dX11_playList_7 rfl ab_k_iconst_m1 ?_
    cases Option.some.inj hf
    exact ab_retI dX11_playList_8 (Or.inl rfl) (Nat.le_refl _) (Nat.le_refl _) ⟨rfl, rfl⟩
set_option maxHeartbeats 4000000 in
set_option maxRecDepth 100000 in
theorem m_X11_playList {d : Nat} {t0 : Nat} {i1 : Int32} {i2 : Int32} {h : ab_HP} {r : (Int32 × ab_HP)} (ht0 : (ab_shp t0).1 = 0) (hf : f_X11_playList t0 i1 i2 h = some r) : ab_MET mX11_playList (d + 5) 0 0 [va_rf (some t0), .int i1, .int i2] h (ab_Pi r.1 r.2) := ab_met (by decide +kernel) (by decide +kernel) (Nat.le_of_ble_eq_true rfl) rfl (x_X11_playList ht0 hf)
set_option maxHeartbeats 4000000 in
set_option maxRecDepth 100000 in
theorem x_X11_endYears {d : Nat} {t0 : Nat} {i1 : Int32} {h : ab_HP} {r : ab_HP} (ht0 : (ab_shp t0).1 = 0) (hf : f_X11_endYears t0 i1 h = some r) : ab_T mX11_endYears (d + 0) 0 0 0 0 0 [some (va_rf (some t0)), some (.int i1)] [] h (ab_Pv r) := by
  unfold f_X11_endYears at hf
  refine ab_aload_n (x := _) (pc2 := 1) dX11_endYears_0 rfl rfl ?_
  refine ab_getR (pc2 := 4) rfl ht0 fa_X11_10 dX11_endYears_1 rfl (fun T1 => ?_)
  refine ab_aload_n (x := _) (pc2 := 5) dX11_endYears_4 rfl rfl ?_
  refine ab_getR (pc2 := 8) rfl ht0 fa_X11_25 dX11_endYears_5 rfl (fun T2 => ?_)
  obtain ⟨q3, hq3, hf⟩ := ab_bind hf
  refine ab_getI (pc2 := 11) hq3 (T2 q3 hq3) fa_X11_155 (by decide) dX11_endYears_8 rfl ?_
  obtain ⟨q4, hq4, hf⟩ := ab_bind hf
  obtain ⟨h5, eh5, hf⟩ := ab_let_x hf
  refine ab_putI (pc2 := 14) hq4 (T1 q4 hq4) fa_X11_94 (Or.inl rfl) (fun z => by cases z) dX11_endYears_11 rfl ?_
  refine ab_topH eh5 ?_
  refine ab_aload_n (x := _) (pc2 := 15) dX11_endYears_14 rfl rfl ?_
  refine ab_getR (pc2 := 18) rfl ht0 fa_X11_10 dX11_endYears_15 rfl (fun T6 => ?_)
  refine ab_aload_n (x := _) (pc2 := 19) dX11_endYears_18 rfl rfl ?_
  refine ab_getR (pc2 := 22) rfl ht0 fa_X11_25 dX11_endYears_19 rfl (fun T7 => ?_)
  obtain ⟨q8, hq8, hf⟩ := ab_bind hf
  refine ab_getI (pc2 := 25) hq8 (T7 q8 hq8) fa_X11_162 (by decide) dX11_endYears_22 rfl ?_
  obtain ⟨q9, hq9, hf⟩ := ab_bind hf
  obtain ⟨h10, eh10, hf⟩ := ab_let_x hf
  refine ab_putI (pc2 := 28) hq9 (T6 q9 hq9) fa_X11_97 (Or.inl rfl) (fun z => by cases z) dX11_endYears_25 rfl ?_
  refine ab_topH eh10 ?_
  refine ab_aload_n (x := _) (pc2 := 29) dX11_endYears_28 rfl rfl ?_
  refine ab_getR (pc2 := 32) rfl ht0 fa_X11_10 dX11_endYears_29 rfl (fun T11 => ?_)
  refine ab_dup (pc2 := 33) dX11_endYears_32 rfl (ab_rf1 _) ?_
  obtain ⟨q12, hq12, hf⟩ := ab_bind hf
  refine ab_getI (pc2 := 36) hq12 (T11 q12 hq12) fa_X11_100 (by decide) dX11_endYears_33 rfl ?_
  refine ab_iload_n (pc2 := 37) dX11_endYears_36 rfl rfl ?_
  refine ab_iadd (pc2 := 38) dX11_endYears_37 rfl ?_
  obtain ⟨h13, eh13, hf⟩ := ab_let_x hf
  refine ab_putI (pc2 := 41) hq12 (T11 q12 hq12) fa_X11_100 (Or.inl rfl) (fun z => by cases z) dX11_endYears_38 rfl ?_
  refine ab_topH eh13 ?_
  cases Option.some.inj hf
  exact ab_retV dX11_endYears_41 rfl (Nat.le_refl _) (Nat.le_refl _) ⟨rfl, rfl⟩
set_option maxHeartbeats 4000000 in
set_option maxRecDepth 100000 in
theorem m_X11_endYears {d : Nat} {t0 : Nat} {i1 : Int32} {h : ab_HP} {r : ab_HP} (ht0 : (ab_shp t0).1 = 0) (hf : f_X11_endYears t0 i1 h = some r) : ab_MET mX11_endYears (d + 0) 0 0 [va_rf (some t0), .int i1] h (ab_Pv r) := ab_met (by decide +kernel) (by decide +kernel) (Nat.le_of_ble_eq_true rfl) rfl (x_X11_endYears ht0 hf)
set_option maxHeartbeats 4000000 in
set_option maxRecDepth 100000 in
theorem x_X11_pair {d : Nat} {t0 : Nat} {i1 : Int32} {i2 : Int32} {h : ab_HP} {r : (Int32 × ab_HP)} (ht0 : (ab_shp t0).1 = 0) (hf : f_X11_pair t0 i1 i2 h = some r) : ab_T mX11_pair (d + 6) 0 0 0 0 0 [some (va_rf (some t0)), some (.int i1), some (.int i2), none] [] h (ab_Pi r.1 r.2) := by
  unfold f_X11_pair at hf
  refine ab_aload_n (x := _) (pc2 := 1) dX11_pair_0 rfl rfl ?_
  refine ab_iload_n (pc2 := 2) dX11_pair_1 rfl rfl ?_
  refine ab_iload_n (pc2 := 3) dX11_pair_2 rfl rfl ?_
  obtain ⟨w1, ew1, hf⟩ := ab_bind hf
  refine ab_callV (pc2 := 6) (st := []) rfl ht0 (by decide) (m_X11_playList (d := (d + 0)) ht0 ew1) mf_X11_playList tw_197 tw_196 ts_X11_playList (Or.inl (by decide +kernel)) dX11_pair_3 rfl (by omega) (Nat.le_refl _) (Nat.le_refl _) rfl (Nat.le_of_ble_eq_true rfl) (ab_kPi ?_)
  refine ab_istore_n (pc2 := 7) (lo2 := [some (va_rf _), some (.int _), some (.int _), some (.int _)]) dX11_pair_6 rfl (by decide) rfl ?_
  refine ab_iload_n (pc2 := 8) dX11_pair_7 rfl rfl ?_
  refine ab_if_eq (tgt := 13) (pc2 := 11) dX11_pair_8 (by decide) rfl hf (fun c2 hf => ?_) (fun c2 hf => ?_)
  · refine ab_aload_n (x := _) (pc2 := 14) dX11_pair_13 rfl rfl ?_
    refine ab_iconst (pc2 := 15) (v := 2) dX11_pair_14 rfl ab_k_iconst_2 ?_
    obtain ⟨w3, ew3, hf⟩ := ab_bind hf
    refine ab_callV (pc2 := 18) (st := []) rfl ht0 (by decide) (m_X11_endYears (d := (d + 5)) ht0 ew3) mf_X11_endYears tw_199 tw_198 ts_X11_endYears (Or.inl (by decide +kernel)) dX11_pair_15 rfl (by omega) (Nat.le_refl _) (Nat.le_refl _) rfl (Nat.le_of_ble_eq_true rfl) (ab_kPv ?_)
    refine ab_aload_n (x := _) (pc2 := 19) dX11_pair_18 rfl rfl ?_
    refine ab_getR (pc2 := 22) rfl ht0 fa_X11_25 dX11_pair_19 rfl (fun T4 => ?_)
    obtain ⟨q5, hq5, hf⟩ := ab_bind hf
    obtain ⟨w6, ew6, hf⟩ := ab_bind hf
    refine ab_callV (pc2 := 25) (st := []) hq5 (T4 q5 hq5) (by decide) (m_X10_standing (d := (d + 5)) (T4 q5 hq5) ew6) mf_X10_standing tw_201 tw_200 ts_X10_standing (Or.inl (by decide +kernel)) dX11_pair_22 rfl (by omega) (Nat.le_refl _) (Nat.le_refl _) rfl (Nat.le_of_ble_eq_true rfl) (ab_kPi ?_)
    obtain ⟨w7, ew7, hf⟩ := ab_bind hf
    refine ab_callS (pc2 := 28) (st := []) (m_J6_bitCount_0f7a4 (d := (d + 5)) ew7) mf_J6_bitCount_0f7a4 tw_202 tw_203 dX11_pair_25 rfl (by omega) (Nat.le_refl _) (Nat.le_refl _) rfl (Nat.le_of_ble_eq_true rfl) (ab_kPi ?_)
    cases Option.some.inj hf
    exact ab_retI dX11_pair_28 (Or.inl rfl) (Nat.le_refl _) (Nat.le_refl _) ⟨rfl, rfl⟩
  · refine ab_iload_n (pc2 := 12) dX11_pair_11 rfl rfl ?_
    cases Option.some.inj hf
    exact ab_retI dX11_pair_12 (Or.inl rfl) (Nat.le_refl _) (Nat.le_refl _) ⟨rfl, rfl⟩
set_option maxHeartbeats 4000000 in
set_option maxRecDepth 100000 in
theorem m_X11_pair {d : Nat} {t0 : Nat} {i1 : Int32} {i2 : Int32} {h : ab_HP} {r : (Int32 × ab_HP)} (ht0 : (ab_shp t0).1 = 0) (hf : f_X11_pair t0 i1 i2 h = some r) : ab_MET mX11_pair (d + 6) 0 0 [va_rf (some t0), .int i1, .int i2] h (ab_Pi r.1 r.2) := ab_met (by decide +kernel) (by decide +kernel) (Nat.le_of_ble_eq_true rfl) rfl (x_X11_pair ht0 hf)
