set_option maxHeartbeats 4000000 in
set_option maxRecDepth 100000 in
theorem x_X10_letFall_l25 {d : Nat} {k4 : Int32 → Int32 → ab_HP → Option ab_HP} {t0 : Nat} {r : ab_HP} (ht0 : (ab_shp t0).1 = 2) (hk4 : ∀ (i1 : Int32) (i2 : Int32) (h : ab_HP), k4 i1 i2 h = some r → ab_T mX10_letFall (d + 2) 0 0 0 0 4 [some (va_rf (some t0)), some (.int i1), some (.int i2), none, none] [] h (ab_Pv r)) : ∀ (n : Nat) (i1 : Int32) (i2 : Int32) (i3 : Int32) (h : ab_HP), f_X10_letFall_l25 k4 t0 n i1 i2 i3 h = some r → ab_T mX10_letFall (d + 2) 0 0 0 0 25 [some (va_rf (some t0)), some (.int i1), some (.int i2), some (.int i3), none] [] h (ab_Pv r) := by
  intro n
  induction n with
  | zero =>
    intro i1 i2 i3 h hf
    rw [f_X10_letFall_l25] at hf
    cases hf
  | succ n ih =>
    intro i1 i2 i3 h hf
    rw [f_X10_letFall_l25] at hf
    refine ab_iload_n (pc2 := 26) dX10_letFall_25 rfl rfl ?_
    refine ab_if_lt (tgt := 96) (pc2 := 29) dX10_letFall_26 (by decide) rfl hf (fun c3 hf => ?_) (fun c3 hf => ?_)
    · refine ab_iinc (pc2 := 99) (v := _ + 1) (lo2 := [some (va_rf _), some (.int _), some (.int _), some (.int _), none]) dX10_letFall_96 rfl rfl rfl (by decide) rfl ?_
      refine ab_goto (tgt := 4) dX10_letFall_99 (by decide) ?_
      exact ab_weak (hk4 _ _ _ hf) (ab_leS (ab_leS (ab_leS (ab_leN (ab_leN ab_le0)))))
    · refine ab_aload_n (x := _) (pc2 := 30) dX10_letFall_29 rfl rfl ?_
      refine ab_iload_n (pc2 := 31) dX10_letFall_30 rfl rfl ?_
      obtain ⟨w4, ew4, hf⟩ := ab_bind hf
      refine ab_callV (pc2 := 34) (st := []) rfl ht0 (by decide) (m_X10_deedAt (d := (d + 1)) ht0 ew4) mf_X10_deedAt tw_164 tw_163 ts_X10_deedAt (Or.inl (by decide +kernel)) dX10_letFall_31 rfl (by omega) (Nat.le_refl _) (Nat.le_refl _) rfl (Nat.le_of_ble_eq_true rfl) (ab_kPr fun T5 => ?_)
      refine ab_astore (pc2 := 36) (lo2 := [some (va_rf _), some (.int _), some (.int _), some (.int _), some (va_rf _)]) dX10_letFall_34 rfl (by decide) rfl ?_
      refine ab_aload (x := _) (pc2 := 38) dX10_letFall_36 rfl rfl ?_
      refine ab_nul (tgt := 90) (pc2 := 41) dX10_letFall_38 (by decide) rfl hf (fun hq6 hf => ?_) (fun q6 hq6 hf => ?_)
      · refine ab_iinc (pc2 := 93) (v := _ + (-1)) (lo2 := [some (va_rf _), some (.int _), some (.int _), some (.int _), some (va_rf _)]) dX10_letFall_90 rfl rfl rfl (by decide) rfl ?_
        refine ab_goto (tgt := 25) dX10_letFall_93 (by decide) ?_
        exact ab_weak (ih _ _ _ _ hf) (ab_leS (ab_leS (ab_leS (ab_leS (ab_leN ab_le0)))))
      · refine ab_aload_n (x := _) (pc2 := 42) dX10_letFall_41 rfl rfl ?_
        refine ab_getI (pc2 := 45) rfl ht0 fa_X10_56 (by decide) dX10_letFall_42 rfl ?_
        refine ab_aload_n (x := _) (pc2 := 46) dX10_letFall_45 rfl rfl ?_
        refine ab_getI (pc2 := 49) rfl ht0 fa_X10_50 (by decide) dX10_letFall_46 rfl ?_
        refine ab_iconst (pc2 := 50) (v := (-1)) dX10_letFall_49 rfl ab_k_iconst_m1 ?_
        refine ab_ixor (pc2 := 51) dX10_letFall_50 rfl ?_
        refine ab_iand (pc2 := 52) dX10_letFall_51 rfl ?_
        refine ab_iload_n (pc2 := 53) dX10_letFall_52 rfl rfl ?_
        obtain ⟨w7, ew7, hf⟩ := ab_bind hf
        refine ab_callS (pc2 := 56) (st := []) (m_X10_has (d := (d + 1)) ew7) mf_X10_has tw_170 tw_171 dX10_letFall_53 rfl (by omega) (Nat.le_refl _) (Nat.le_refl _) rfl (Nat.le_of_ble_eq_true rfl) (ab_kPb fun z8 => ?_)
        refine ab_if_eq (tgt := 90) (pc2 := 59) dX10_letFall_56 (by decide) rfl hf (fun c9 hf => ?_) (fun c9 hf => ?_)
        · refine ab_iinc (pc2 := 93) (v := _ + (-1)) (lo2 := [some (va_rf _), some (.int _), some (.int _), some (.int _), some (va_rf _)]) dX10_letFall_90 rfl rfl rfl (by decide) rfl ?_
          refine ab_goto (tgt := 25) dX10_letFall_93 (by decide) ?_
          exact ab_weak (ih _ _ _ _ hf) (ab_leS (ab_leS (ab_leS (ab_leS (ab_leN ab_le0)))))
        · refine ab_aload (x := _) (pc2 := 61) dX10_letFall_59 rfl rfl ?_
          refine ab_aload_n (x := _) (pc2 := 62) dX10_letFall_61 rfl rfl ?_
          refine ab_getI (pc2 := 65) rfl ht0 fa_X10_38 (by decide) dX10_letFall_62 rfl ?_
          obtain ⟨w10, ew10, hf⟩ := ab_bind hf
          refine ab_callV (pc2 := 68) (st := []) hq6 (T5 q6 hq6) (by decide) (m_X1_hasGround (d := (d + 1)) (T5 q6 hq6) ew10) mf_X1_hasGround tw_177 tw_146 ts_X1_hasGround (Or.inr tw_147) dX10_letFall_65 rfl (by omega) (Nat.le_refl _) (Nat.le_refl _) rfl (Nat.le_of_ble_eq_true rfl) (ab_kPb fun z11 => ?_)
          refine ab_if_ne (tgt := 90) (pc2 := 71) dX10_letFall_68 (by decide) rfl hf (fun c12 hf => ?_) (fun c12 hf => ?_)
          · refine ab_iinc (pc2 := 93) (v := _ + (-1)) (lo2 := [some (va_rf _), some (.int _), some (.int _), some (.int _), some (va_rf _)]) dX10_letFall_90 rfl rfl rfl (by decide) rfl ?_
            refine ab_goto (tgt := 25) dX10_letFall_93 (by decide) ?_
            exact ab_weak (ih _ _ _ _ hf) (ab_leS (ab_leS (ab_leS (ab_leS (ab_leN ab_le0)))))
          · refine ab_aload_n (x := _) (pc2 := 72) dX10_letFall_71 rfl rfl ?_
            refine ab_iload_n (pc2 := 73) dX10_letFall_72 rfl rfl ?_
            obtain ⟨w13, ew13, hf⟩ := ab_bind hf
            refine ab_callV (pc2 := 76) (st := []) rfl ht0 (by decide) (m_X10_undo (d := (d + 0)) ht0 ew13) mf_X10_undo tw_179 tw_178 ts_X10_undo (Or.inl (by decide +kernel)) dX10_letFall_73 rfl (by omega) (Nat.le_refl _) (Nat.le_refl _) rfl (Nat.le_of_ble_eq_true rfl) (ab_kPv ?_)
            refine ab_aload_n (x := _) (pc2 := 77) dX10_letFall_76 rfl rfl ?_
            refine ab_dup (pc2 := 78) dX10_letFall_77 rfl (ab_rf1 _) ?_
            refine ab_getI (pc2 := 81) rfl ht0 fa_X10_59 (by decide) dX10_letFall_78 rfl ?_
            refine ab_iconst (pc2 := 82) (v := 1) dX10_letFall_81 rfl ab_k_iconst_1 ?_
            refine ab_iload_n (pc2 := 83) dX10_letFall_82 rfl rfl ?_
            refine ab_ishl (pc2 := 84) dX10_letFall_83 rfl ?_
            refine ab_ior (pc2 := 85) dX10_letFall_84 rfl ?_
            obtain ⟨h14, eh14, hf⟩ := ab_let_x hf
            refine ab_putI (pc2 := 88) rfl ht0 fa_X10_59 (Or.inl rfl) (fun z => by cases z) dX10_letFall_85 rfl ?_
            refine ab_topH eh14 ?_
            refine ab_iconst (pc2 := 89) (v := 1) dX10_letFall_88 rfl ab_k_iconst_1 ?_
            refine ab_istore_n (pc2 := 90) (lo2 := [some (va_rf _), some (.int _), some (.int _), some (.int _), some (va_rf _)]) dX10_letFall_89 rfl (by decide) rfl ?_
            refine ab_iinc (pc2 := 93) (v := _ + (-1)) (lo2 := [some (va_rf _), some (.int _), some (.int _), some (.int _), some (va_rf _)]) dX10_letFall_90 rfl rfl rfl (by decide) rfl ?_
            refine ab_goto (tgt := 25) dX10_letFall_93 (by decide) ?_
            exact ab_weak (ih _ _ _ _ hf) (ab_leS (ab_leS (ab_leS (ab_leS (ab_leN ab_le0)))))
set_option maxHeartbeats 4000000 in
set_option maxRecDepth 100000 in
theorem x_X10_letFall_l4 {d : Nat} {t0 : Nat} {r : ab_HP} (ht0 : (ab_shp t0).1 = 2) : ∀ (n : Nat) (i1 : Int32) (i2 : Int32) (h : ab_HP), f_X10_letFall_l4 t0 n i1 i2 h = some r → ab_T mX10_letFall (d + 2) 0 0 0 0 4 [some (va_rf (some t0)), some (.int i1), some (.int i2), none, none] [] h (ab_Pv r) := by
  intro n
  induction n with
  | zero =>
    intro i1 i2 h hf
    rw [f_X10_letFall_l4] at hf
    cases hf
  | succ n ih =>
    intro i1 i2 h hf
    rw [f_X10_letFall_l4] at hf
    refine ab_iload_n (pc2 := 5) dX10_letFall_4 rfl rfl ?_
    refine ab_aload_n (x := _) (pc2 := 6) dX10_letFall_5 rfl rfl ?_
    refine ab_getI (pc2 := 9) rfl ht0 fa_X10_35 (by decide) dX10_letFall_6 rfl ?_
    refine ab_icmp_gt (tgt := 102) (pc2 := 12) dX10_letFall_9 (by decide) rfl hf (fun c1 hf => ?_) (fun c1 hf => ?_)
    · cases Option.some.inj hf
      exact ab_retV dX10_letFall_102 rfl (Nat.le_refl _) (Nat.le_refl _) ⟨rfl, rfl⟩
    · refine ab_iload_n (pc2 := 13) dX10_letFall_12 rfl rfl ?_
      refine ab_if_eq (tgt := 102) (pc2 := 16) dX10_letFall_13 (by decide) rfl hf (fun c2 hf => ?_) (fun c2 hf => ?_)
      · cases Option.some.inj hf
        exact ab_retV dX10_letFall_102 rfl (Nat.le_refl _) (Nat.le_refl _) ⟨rfl, rfl⟩
      · refine ab_iconst (pc2 := 17) (v := 0) dX10_letFall_16 rfl ab_k_iconst_0 ?_
        refine ab_istore_n (pc2 := 18) (lo2 := [some (va_rf _), some (.int _), some (.int _), none, none]) dX10_letFall_17 rfl (by decide) rfl ?_
        refine ab_aload_n (x := _) (pc2 := 19) dX10_letFall_18 rfl rfl ?_
        refine ab_getI (pc2 := 22) rfl ht0 fa_X10_35 (by decide) dX10_letFall_19 rfl ?_
        refine ab_iconst (pc2 := 23) (v := 1) dX10_letFall_22 rfl ab_k_iconst_1 ?_
        refine ab_isub (pc2 := 24) dX10_letFall_23 rfl ?_
        refine ab_istore_n (pc2 := 25) (lo2 := [some (va_rf _), some (.int _), some (.int _), some (.int _), none]) dX10_letFall_24 rfl (by decide) rfl ?_
        exact ab_weak (x_X10_letFall_l25 ht0 ih _ _ _ _ _ hf) (ab_leS (ab_leS (ab_leS (ab_leS (ab_leN ab_le0)))))
set_option maxHeartbeats 4000000 in
set_option maxRecDepth 100000 in
theorem x_X10_letFall {d : Nat} {t0 : Nat} {h : ab_HP} {r : ab_HP} (ht0 : (ab_shp t0).1 = 2) (hf : f_X10_letFall t0 h = some r) : ab_T mX10_letFall (d + 2) 0 0 0 0 0 [some (va_rf (some t0)), none, none, none, none] [] h (ab_Pv r) := by
  unfold f_X10_letFall at hf
  refine ab_iconst (pc2 := 1) (v := 1) dX10_letFall_0 rfl ab_k_iconst_1 ?_
  refine ab_istore_n (pc2 := 2) (lo2 := [some (va_rf _), some (.int _), none, none, none]) dX10_letFall_1 rfl (by decide) rfl ?_
  refine ab_iconst (pc2 := 3) (v := 0) dX10_letFall_2 rfl ab_k_iconst_0 ?_
  refine ab_istore_n (pc2 := 4) (lo2 := [some (va_rf _), some (.int _), some (.int _), none, none]) dX10_letFall_3 rfl (by decide) rfl ?_
  exact ab_weak (x_X10_letFall_l4 ht0 _ _ _ _ hf) (ab_leS (ab_leS (ab_leS (ab_leN (ab_leN ab_le0)))))
set_option maxHeartbeats 4000000 in
set_option maxRecDepth 100000 in
theorem m_X10_letFall {d : Nat} {t0 : Nat} {h : ab_HP} {r : ab_HP} (ht0 : (ab_shp t0).1 = 2) (hf : f_X10_letFall t0 h = some r) : ab_MET mX10_letFall (d + 2) 0 0 [va_rf (some t0)] h (ab_Pv r) := ab_met (by decide +kernel) (by decide +kernel) (Nat.le_of_ble_eq_true rfl) rfl (x_X10_letFall ht0 hf)
set_option maxHeartbeats 4000000 in
set_option maxRecDepth 100000 in
theorem x_X10_oddYear_l7 {d : Nat} {t0 : Nat} {r : ab_HP} (ht0 : (ab_shp t0).1 = 2) : ∀ (n : Nat) (i1 : Int32) (h : ab_HP), f_X10_oddYear_l7 t0 n i1 h = some r → ab_T mX10_oddYear (d + 3) 0 0 0 0 7 [some (va_rf (some t0)), some (.int i1)] [] h (ab_Pv r) := by
  intro n
  induction n with
  | zero =>
    intro i1 h hf
    rw [f_X10_oddYear_l7] at hf
    cases hf
  | succ n ih =>
    intro i1 h hf
    rw [f_X10_oddYear_l7] at hf
    refine ab_iload_n (pc2 := 8) dX10_oddYear_7 rfl rfl ?_
    refine ab_if_lt (tgt := 59) (pc2 := 11) dX10_oddYear_8 (by decide) rfl hf (fun c1 hf => ?_) (fun c1 hf => ?_)
    · cases Option.some.inj hf
      exact ab_retV dX10_oddYear_59 rfl (Nat.le_refl _) (Nat.le_refl _) ⟨rfl, rfl⟩
    · refine ab_aload_n (x := _) (pc2 := 12) dX10_oddYear_11 rfl rfl ?_
      refine ab_getI (pc2 := 15) rfl ht0 fa_X10_47 (by decide) dX10_oddYear_12 rfl ?_
      refine ab_aload_n (x := _) (pc2 := 16) dX10_oddYear_15 rfl rfl ?_
      refine ab_getI (pc2 := 19) rfl ht0 fa_X10_56 (by decide) dX10_oddYear_16 rfl ?_
      refine ab_iconst (pc2 := 20) (v := (-1)) dX10_oddYear_19 rfl ab_k_iconst_m1 ?_
      refine ab_ixor (pc2 := 21) dX10_oddYear_20 rfl ?_
      refine ab_iand (pc2 := 22) dX10_oddYear_21 rfl ?_
      refine ab_iload_n (pc2 := 23) dX10_oddYear_22 rfl rfl ?_
      obtain ⟨w2, ew2, hf⟩ := ab_bind hf
      refine ab_callS (pc2 := 26) (st := []) (m_X10_has (d := (d + 2)) ew2) mf_X10_has tw_170 tw_171 dX10_oddYear_23 rfl (by omega) (Nat.le_refl _) (Nat.le_refl _) rfl (Nat.le_of_ble_eq_true rfl) (ab_kPb fun z3 => ?_)
      refine ab_if_eq (tgt := 53) (pc2 := 29) dX10_oddYear_26 (by decide) rfl hf (fun c4 hf => ?_) (fun c4 hf => ?_)
      · refine ab_iinc (pc2 := 56) (v := _ + (-1)) (lo2 := [some (va_rf _), some (.int _)]) dX10_oddYear_53 rfl rfl rfl (by decide) rfl ?_
        refine ab_goto (tgt := 7) dX10_oddYear_56 (by decide) ?_
        exact ab_weak (ih _ _ hf) (ab_leS (ab_leS ab_le0))
      · refine ab_aload_n (x := _) (pc2 := 30) dX10_oddYear_29 rfl rfl ?_
        refine ab_iload_n (pc2 := 31) dX10_oddYear_30 rfl rfl ?_
        obtain ⟨w5, ew5, hf⟩ := ab_bind hf
        refine ab_callV (pc2 := 34) (st := []) rfl ht0 (by decide) (m_X10_stays (d := (d + 1)) ht0 ew5) mf_X10_stays tw_181 tw_180 ts_X10_stays (Or.inl (by decide +kernel)) dX10_oddYear_31 rfl (by omega) (Nat.le_refl _) (Nat.le_refl _) rfl (Nat.le_of_ble_eq_true rfl) (ab_kPb fun z6 => ?_)
        refine ab_if_ne (tgt := 53) (pc2 := 37) dX10_oddYear_34 (by decide) rfl hf (fun c7 hf => ?_) (fun c7 hf => ?_)
        · refine ab_iinc (pc2 := 56) (v := _ + (-1)) (lo2 := [some (va_rf _), some (.int _)]) dX10_oddYear_53 rfl rfl rfl (by decide) rfl ?_
          refine ab_goto (tgt := 7) dX10_oddYear_56 (by decide) ?_
          exact ab_weak (ih _ _ hf) (ab_leS (ab_leS ab_le0))
        · refine ab_aload_n (x := _) (pc2 := 38) dX10_oddYear_37 rfl rfl ?_
          refine ab_iload_n (pc2 := 39) dX10_oddYear_38 rfl rfl ?_
          obtain ⟨w8, ew8, hf⟩ := ab_bind hf
          refine ab_callV (pc2 := 42) (st := []) rfl ht0 (by decide) (m_X10_undo (d := (d + 1)) ht0 ew8) mf_X10_undo tw_179 tw_178 ts_X10_undo (Or.inl (by decide +kernel)) dX10_oddYear_39 rfl (by omega) (Nat.le_refl _) (Nat.le_refl _) rfl (Nat.le_of_ble_eq_true rfl) (ab_kPv ?_)
          refine ab_aload_n (x := _) (pc2 := 43) dX10_oddYear_42 rfl rfl ?_
          refine ab_getI (pc2 := 46) rfl ht0 fa_X10_34 (by decide) dX10_oddYear_43 rfl ?_
          refine ab_if_ne (tgt := 53) (pc2 := 49) dX10_oddYear_46 (by decide) rfl hf (fun c9 hf => ?_) (fun c9 hf => ?_)
          · refine ab_iinc (pc2 := 56) (v := _ + (-1)) (lo2 := [some (va_rf _), some (.int _)]) dX10_oddYear_53 rfl rfl rfl (by decide) rfl ?_
            refine ab_goto (tgt := 7) dX10_oddYear_56 (by decide) ?_
            exact ab_weak (ih _ _ hf) (ab_leS (ab_leS ab_le0))
          · refine ab_aload_n (x := _) (pc2 := 50) dX10_oddYear_49 rfl rfl ?_
            obtain ⟨w10, ew10, hf⟩ := ab_bind hf
            refine ab_callV (pc2 := 53) (st := []) rfl ht0 (by decide) (m_X10_letFall (d := (d + 0)) ht0 ew10) mf_X10_letFall tw_183 tw_182 ts_X10_letFall (Or.inl (by decide +kernel)) dX10_oddYear_50 rfl (by omega) (Nat.le_refl _) (Nat.le_refl _) rfl (Nat.le_of_ble_eq_true rfl) (ab_kPv ?_)
            refine ab_iinc (pc2 := 56) (v := _ + (-1)) (lo2 := [some (va_rf _), some (.int _)]) dX10_oddYear_53 rfl rfl rfl (by decide) rfl ?_
            refine ab_goto (tgt := 7) dX10_oddYear_56 (by decide) ?_
            exact ab_weak (ih _ _ hf) (ab_leS (ab_leS ab_le0))
set_option maxHeartbeats 4000000 in
set_option maxRecDepth 100000 in
theorem x_X10_oddYear {d : Nat} {t0 : Nat} {h : ab_HP} {r : ab_HP} (ht0 : (ab_shp t0).1 = 2) (hf : f_X10_oddYear t0 h = some r) : ab_T mX10_oddYear (d + 3) 0 0 0 0 0 [some (va_rf (some t0)), none] [] h (ab_Pv r) := by
  unfold f_X10_oddYear at hf
  refine ab_aload_n (x := _) (pc2 := 1) dX10_oddYear_0 rfl rfl ?_
  refine ab_getI (pc2 := 4) rfl ht0 fa_X10_35 (by decide) dX10_oddYear_1 rfl ?_
  refine ab_iconst (pc2 := 5) (v := 1) dX10_oddYear_4 rfl ab_k_iconst_1 ?_
  refine ab_isub (pc2 := 6) dX10_oddYear_5 rfl ?_
  refine ab_istore_n (pc2 := 7) (lo2 := [some (va_rf _), some (.int _)]) dX10_oddYear_6 rfl (by decide) rfl ?_
  exact ab_weak (x_X10_oddYear_l7 ht0 _ _ _ hf) (ab_leS (ab_leS ab_le0))
set_option maxHeartbeats 4000000 in
set_option maxRecDepth 100000 in
theorem m_X10_oddYear {d : Nat} {t0 : Nat} {h : ab_HP} {r : ab_HP} (ht0 : (ab_shp t0).1 = 2) (hf : f_X10_oddYear t0 h = some r) : ab_MET mX10_oddYear (d + 3) 0 0 [va_rf (some t0)] h (ab_Pv r) := ab_met (by decide +kernel) (by decide +kernel) (Nat.le_of_ble_eq_true rfl) rfl (x_X10_oddYear ht0 hf)
set_option maxHeartbeats 4000000 in
set_option maxRecDepth 100000 in
theorem x_X10_play_b25 {d : Nat} {t0 : Nat} {i1 : Int32} {h : ab_HP} {r : ab_HP} (ht0 : (ab_shp t0).1 = 2) (hf : f_X10_play_b25 t0 i1 h = some r) : ab_T mX10_play (d + 4) 0 0 0 0 25 [some (va_rf (some t0)), some (.int i1)] [] h (ab_Pv r) := by
  unfold f_X10_play_b25 at hf
  refine ab_aload_n (x := _) (pc2 := 26) dX10_play_25 rfl rfl ?_
  refine ab_iload_n (pc2 := 27) dX10_play_26 rfl rfl ?_
  obtain ⟨w8, ew8, hf⟩ := ab_bind hf
  refine ab_callV (pc2 := 30) (st := []) rfl ht0 (by decide) (m_X10_evenYear (d := (d + 0)) ht0 ew8) mf_X10_evenYear tw_187 tw_186 ts_X10_evenYear (Or.inl (by decide +kernel)) dX10_play_27 rfl (by omega) (Nat.le_refl _) (Nat.le_refl _) rfl (Nat.le_of_ble_eq_true rfl) (ab_kPv ?_)
  refine ab_aload_n (x := _) (pc2 := 31) dX10_play_30 rfl rfl ?_
  obtain ⟨w9, ew9, hf⟩ := ab_bind hf
  refine ab_callV (pc2 := 34) (st := []) rfl ht0 (by decide) (m_X10_oddYear (d := (d + 0)) ht0 ew9) mf_X10_oddYear tw_189 tw_188 ts_X10_oddYear (Or.inl (by decide +kernel)) dX10_play_31 rfl (by omega) (Nat.le_refl _) (Nat.le_refl _) rfl (Nat.le_of_ble_eq_true rfl) (ab_kPv ?_)
  cases Option.some.inj hf
  exact ab_retV dX10_play_34 rfl (Nat.le_refl _) (Nat.le_refl _) ⟨rfl, rfl⟩
set_option maxHeartbeats 4000000 in
set_option maxRecDepth 100000 in
theorem x_X10_play {d : Nat} {t0 : Nat} {i1 : Int32} {h : ab_HP} {r : ab_HP} (ht0 : (ab_shp t0).1 = 2) (hf : f_X10_play t0 i1 h = some r) : ab_T mX10_play (d + 4) 0 0 0 0 0 [some (va_rf (some t0)), some (.int i1)] [] h (ab_Pv r) := by
  unfold f_X10_play at hf
  refine ab_aload_n (x := _) (pc2 := 1) dX10_play_0 rfl rfl ?_
  refine ab_getR (pc2 := 4) rfl ht0 fa_X10_24 dX10_play_1 rfl (fun T1 => ?_)
  refine ab_nul (tgt := 25) (pc2 := 7) dX10_play_4 (by decide) rfl hf (fun hq2 hf => ?_) (fun q2 hq2 hf => ?_)
  · exact ab_weak (x_X10_play_b25 ht0 hf) (ab_leS (ab_leS ab_le0))
  · refine ab_aload_n (x := _) (pc2 := 8) dX10_play_7 rfl rfl ?_
    refine ab_aload_n (x := _) (pc2 := 9) dX10_play_8 rfl rfl ?_
    refine ab_getR (pc2 := 12) rfl ht0 fa_X10_24 dX10_play_9 rfl (fun T3 => ?_)
    obtain ⟨q4, hq4, hf⟩ := ab_bind hf
    refine ab_getI (pc2 := 15) hq4 (T3 q4 hq4) fa_X10_62 (by decide) dX10_play_12 rfl ?_
    refine ab_aload_n (x := _) (pc2 := 16) dX10_play_15 rfl rfl ?_
    refine ab_getR (pc2 := 19) rfl ht0 fa_X10_24 dX10_play_16 rfl (fun T5 => ?_)
    obtain ⟨q6, hq6, hf⟩ := ab_bind hf
    refine ab_getI (pc2 := 22) hq6 (T5 q6 hq6) fa_X10_63 (by decide) dX10_play_19 rfl ?_
    obtain ⟨w7, ew7, hf⟩ := ab_bind hf
    refine ab_callV (pc2 := 25) (st := []) rfl ht0 (by decide) (m_X10_begin (d := (d + 3)) ht0 ew7) mf_X10_begin tw_185 tw_184 ts_X10_begin (Or.inl (by decide +kernel)) dX10_play_22 rfl (by omega) (Nat.le_refl _) (Nat.le_refl _) rfl (Nat.le_of_ble_eq_true rfl) (ab_kPv ?_)
    exact ab_weak (x_X10_play_b25 ht0 hf) (ab_leS (ab_leS ab_le0))
set_option maxHeartbeats 4000000 in
set_option maxRecDepth 100000 in
theorem m_X10_play {d : Nat} {t0 : Nat} {i1 : Int32} {h : ab_HP} {r : ab_HP} (ht0 : (ab_shp t0).1 = 2) (hf : f_X10_play t0 i1 h = some r) : ab_MET mX10_play (d + 4) 0 0 [va_rf (some t0), .int i1] h (ab_Pv r) := ab_met (by decide +kernel) (by decide +kernel) (Nat.le_of_ble_eq_true rfl) rfl (x_X10_play ht0 hf)
set_option maxHeartbeats 4000000 in
set_option maxRecDepth 100000 in
theorem x_X10_standing {d : Nat} {t0 : Nat} {h : ab_HP} {r : Int32} (ht0 : (ab_shp t0).1 = 2) (hf : f_X10_standing t0 h = some r) : ab_T mX10_standing (d + 0) 0 0 0 0 0 [some (va_rf (some t0))] [] h (ab_Pi r h) := by
  unfold f_X10_standing at hf
  refine ab_aload_n (x := _) (pc2 := 1) dX10_standing_0 rfl rfl ?_
  refine ab_getI (pc2 := 4) rfl ht0 fa_X10_47 (by decide) dX10_standing_1 rfl ?_
  refine ab_aload_n (x := _) (pc2 := 5) dX10_standing_4 rfl rfl ?_
  refine ab_getI (pc2 := 8) rfl ht0 fa_X10_50 (by decide) dX10_standing_5 rfl ?_
  refine ab_iconst (pc2 := 9) (v := (-1)) dX10_standing_8 rfl ab_k_iconst_m1 ?_
  refine ab_ixor (pc2 := 10) dX10_standing_9 rfl ?_
  refine ab_iand (pc2 := 11) dX10_standing_10 rfl ?_
  cases Option.some.inj hf
  exact ab_retI dX10_standing_11 (Or.inl rfl) (Nat.le_refl _) (Nat.le_refl _) ⟨rfl, rfl⟩
set_option maxHeartbeats 4000000 in
set_option maxRecDepth 100000 in
theorem m_X10_standing {d : Nat} {t0 : Nat} {h : ab_HP} {r : Int32} (ht0 : (ab_shp t0).1 = 2) (hf : f_X10_standing t0 h = some r) : ab_MET mX10_standing (d + 0) 0 0 [va_rf (some t0)] h (ab_Pi r h) := ab_met (by decide +kernel) (by decide +kernel) (Nat.le_of_ble_eq_true rfl) rfl (x_X10_standing ht0 hf)
set_option maxHeartbeats 4000000 in
set_option maxRecDepth 100000 in
theorem x_X10_fate {d : Nat} {t0 : Nat} {i1 : Int32} {h : ab_HP} {r : Int32} (ht0 : (ab_shp t0).1 = 2) (hf : f_X10_fate t0 i1 h = some r) : ab_T mX10_fate (d + 1) 0 0 0 0 0 [some (va_rf (some t0)), some (.int i1)] [] h (ab_Pi r h) := by
  unfold f_X10_fate at hf
  refine ab_aload_n (x := _) (pc2 := 1) dX10_fate_0 rfl rfl ?_
  refine ab_getI (pc2 := 4) rfl ht0 fa_X10_47 (by decide) dX10_fate_1 rfl ?_
  refine ab_iload_n (pc2 := 5) dX10_fate_4 rfl rfl ?_
  obtain ⟨w1, ew1, hf⟩ := ab_bind hf
  refine ab_callS (pc2 := 8) (st := []) (m_X10_has (d := (d + 0)) ew1) mf_X10_has tw_170 tw_171 dX10_fate_5 rfl (by omega) (Nat.le_refl _) (Nat.le_refl _) rfl (Nat.le_of_ble_eq_true rfl) (ab_kPb fun z2 => ?_)
  refine ab_if_ne (tgt := 13) (pc2 := 11) dX10_fate_8 (by decide) rfl hf (fun c3 hf => ?_) (fun c3 hf => ?_)
  · refine ab_aload_n (x := _) (pc2 := 14) dX10_fate_13 rfl rfl ?_
    refine ab_getI (pc2 := 17) rfl ht0 fa_X10_50 (by decide) dX10_fate_14 rfl ?_
    refine ab_iload_n (pc2 := 18) dX10_fate_17 rfl rfl ?_
    obtain ⟨w4, ew4, hf⟩ := ab_bind hf
    refine ab_callS (pc2 := 21) (st := []) (m_X10_has (d := (d + 0)) ew4) mf_X10_has tw_170 tw_171 dX10_fate_18 rfl (by omega) (Nat.le_refl _) (Nat.le_refl _) rfl (Nat.le_of_ble_eq_true rfl) (ab_kPb fun z5 => ?_)
    refine ab_if_eq (tgt := 41) (pc2 := 24) dX10_fate_21 (by decide) rfl hf (fun c6 hf => ?_) (fun c6 hf => ?_)
    · refine ab_aload_n (x := _) (pc2 := 42) dX10_fate_41 rfl rfl ?_
      refine ab_getI (pc2 := 45) rfl ht0 fa_X10_53 (by decide) dX10_fate_42 rfl ?_
      refine ab_iload_n (pc2 := 46) dX10_fate_45 rfl rfl ?_
      obtain ⟨w7, ew7, hf⟩ := ab_bind hf
      refine ab_callS (pc2 := 49) (st := []) (m_X10_has (d := (d + 0)) ew7) mf_X10_has tw_170 tw_171 dX10_fate_46 rfl (by omega) (Nat.le_refl _) (Nat.le_refl _) rfl (Nat.le_of_ble_eq_true rfl) (ab_kPb fun z8 => ?_)
      refine ab_if_eq (tgt := 54) (pc2 := 52) dX10_fate_49 (by decide) rfl hf (fun c9 hf => ?_) (fun c9 hf => ?_)
      · refine ab_aload_n (x := _) (pc2 := 55) dX10_fate_54 rfl rfl ?_
        refine ab_getI (pc2 := 58) rfl ht0 fa_X10_56 (by decide) dX10_fate_55 rfl ?_
        refine ab_iload_n (pc2 := 59) dX10_fate_58 rfl rfl ?_
        obtain ⟨w10, ew10, hf⟩ := ab_bind hf
        refine ab_callS (pc2 := 62) (st := []) (m_X10_has (d := (d + 0)) ew10) mf_X10_has tw_170 tw_171 dX10_fate_59 rfl (by omega) (Nat.le_refl _) (Nat.le_refl _) rfl (Nat.le_of_ble_eq_true rfl) (ab_kPb fun z11 => ?_)
        refine ab_if_eq (tgt := 69) (pc2 := 65) dX10_fate_62 (by decide) rfl hf (fun c12 hf => ?_) (fun c12 hf => ?_)
        · refine ab_iconst (pc2 := 70) (v := 4) dX10_fate_69 rfl ab_k_iconst_4 ?_
          cases Option.some.inj hf
          exact ab_retI dX10_fate_70 (Or.inl rfl) (Nat.le_refl _) (Nat.le_refl _) ⟨rfl, rfl⟩
        · refine ab_iconst (pc2 := 66) (v := 3) dX10_fate_65 rfl ab_k_iconst_3 ?_
          refine ab_goto (tgt := 70) dX10_fate_66 (by decide) ?_
          cases Option.some.inj hf
          exact ab_retI dX10_fate_70 (Or.inl rfl) (Nat.le_refl _) (Nat.le_refl _) ⟨rfl, rfl⟩
      · refine ab_iconst (pc2 := 53) (v := 2) dX10_fate_52 rfl ab_k_iconst_2 ?_
        cases Option.some.inj hf
        exact ab_retI dX10_fate_53 (Or.inl rfl) (Nat.le_refl _) (Nat.le_refl _) ⟨rfl, rfl⟩
    · refine ab_aload_n (x := _) (pc2 := 25) dX10_fate_24 rfl rfl ?_
      refine ab_getI (pc2 := 28) rfl ht0 fa_X10_59 (by decide) dX10_fate_25 rfl ?_
      refine ab_iload_n (pc2 := 29) dX10_fate_28 rfl rfl ?_
      obtain ⟨w13, ew13, hf⟩ := ab_bind hf
      refine ab_callS (pc2 := 32) (st := []) (m_X10_has (d := (d + 0)) ew13) mf_X10_has tw_170 tw_171 dX10_fate_29 rfl (by omega) (Nat.le_refl _) (Nat.le_refl _) rfl (Nat.le_of_ble_eq_true rfl) (ab_kPb fun z14 => ?_)
      refine ab_if_eq (tgt := 39) (pc2 := 35) dX10_fate_32 (by decide) rfl hf (fun c15 hf => ?_) (fun c15 hf => ?_)
      · refine ab_iconst (pc2 := 40) (v := 1) dX10_fate_39 rfl ab_k_iconst_1 ?_
        cases Option.some.inj hf
        exact ab_retI dX10_fate_40 (Or.inl rfl) (Nat.le_refl _) (Nat.le_refl _) ⟨rfl, rfl⟩
      · refine ab_iconst (pc2 := 36) (v := 5) dX10_fate_35 rfl ab_k_iconst_5 ?_
        refine ab_goto (tgt := 40) dX10_fate_36 (by decide) ?_
        cases Option.some.inj hf
        exact ab_retI dX10_fate_40 (Or.inl rfl) (Nat.le_refl _) (Nat.le_refl _) ⟨rfl, rfl⟩
  · refine ab_iconst (pc2 := 12) (v := 0) dX10_fate_11 rfl ab_k_iconst_0 ?_
    cases Option.some.inj hf
    exact ab_retI dX10_fate_12 (Or.inl rfl) (Nat.le_refl _) (Nat.le_refl _) ⟨rfl, rfl⟩
set_option maxHeartbeats 4000000 in
set_option maxRecDepth 100000 in
theorem m_X10_fate {d : Nat} {t0 : Nat} {i1 : Int32} {h : ab_HP} {r : Int32} (ht0 : (ab_shp t0).1 = 2) (hf : f_X10_fate t0 i1 h = some r) : ab_MET mX10_fate (d + 1) 0 0 [va_rf (some t0), .int i1] h (ab_Pi r h) := ab_met (by decide +kernel) (by decide +kernel) (Nat.le_of_ble_eq_true rfl) rfl (x_X10_fate ht0 hf)
set_option maxHeartbeats 4000000 in
set_option maxRecDepth 100000 in
theorem x_X10_leastNails_b77 {d : Nat} {k8 : Int32 → Int32 → Int32 → Int32 → ab_HP → Option (Int32 × ab_HP)} {t0 : Nat} {i1 : Int32} {i4 : Int32} {h : ab_HP} {r : (Int32 × ab_HP)} (ht0 : (ab_shp t0).1 = 2) (hk8 : ∀ (i1 : Int32) (i2 : Int32) (i3 : Int32) (i4 : Int32) (h : ab_HP), k8 i1 i2 i3 i4 h = some r → ab_T mX10_leastNails (d + 5) 0 0 0 0 8 [some (va_rf (some t0)), some (.int i1), some (.int i2), some (.int i3), some (.int i4), none] [] h (ab_Pi r.1 r.2)) (hf : f_X10_leastNails_b77 k8 t0 i1 i4 h = some r) : ab_T mX10_leastNails (d + 5) 0 0 0 0 77 [some (va_rf (some t0)), some (.int i1), none, none, some (.int i4), none] [] h (ab_Pi r.1 r.2) := by
  unfold f_X10_leastNails_b77 at hf
  refine ab_iload (pc2 := 79) dX10_leastNails_77 rfl rfl ?_
  refine ab_istore_n (pc2 := 80) (lo2 := [some (va_rf _), some (.int _), some (.int _), none, some (.int _), none]) dX10_leastNails_79 rfl (by decide) rfl ?_
  refine ab_aload_n (x := _) (pc2 := 81) dX10_leastNails_80 rfl rfl ?_
  refine ab_getI (pc2 := 84) rfl ht0 fa_X10_44 (by decide) dX10_leastNails_81 rfl ?_
  refine ab_istore_n (pc2 := 85) (lo2 := [some (va_rf _), some (.int _), some (.int _), some (.int _), some (.int _), none]) dX10_leastNails_84 rfl (by decide) rfl ?_
  refine ab_iinc (pc2 := 88) (v := _ + 1) (lo2 := [some (va_rf _), some (.int _), some (.int _), some (.int _), some (.int _), none]) dX10_leastNails_85 rfl rfl rfl (by decide) rfl ?_
  refine ab_goto (tgt := 8) dX10_leastNails_88 (by decide) ?_
  exact ab_weak (hk8 _ _ _ _ _ hf) (ab_leS (ab_leS (ab_leS (ab_leS (ab_leS (ab_leN ab_le0))))))
set_option maxHeartbeats 4000000 in
set_option maxRecDepth 100000 in
theorem x_X10_leastNails_l8 {d : Nat} {t0 : Nat} {r : (Int32 × ab_HP)} (ht0 : (ab_shp t0).1 = 2) : ∀ (n : Nat) (i1 : Int32) (i2 : Int32) (i3 : Int32) (i4 : Int32) (h : ab_HP), f_X10_leastNails_l8 t0 n i1 i2 i3 i4 h = some r → ab_T mX10_leastNails (d + 5) 0 0 0 0 8 [some (va_rf (some t0)), some (.int i1), some (.int i2), some (.int i3), some (.int i4), none] [] h (ab_Pi r.1 r.2) := by
  intro n
  induction n with
  | zero =>
    intro i1 i2 i3 i4 h hf
    rw [f_X10_leastNails_l8] at hf
    cases hf
  | succ n ih =>
    intro i1 i2 i3 i4 h hf
    rw [f_X10_leastNails_l8] at hf
    refine ab_iload (pc2 := 10) dX10_leastNails_8 rfl rfl ?_
    refine ab_iconst (pc2 := 11) (v := 1) dX10_leastNails_10 rfl ab_k_iconst_1 ?_
    refine ab_aload_n (x := _) (pc2 := 12) dX10_leastNails_11 rfl rfl ?_
    refine ab_getI (pc2 := 15) rfl ht0 fa_X10_35 (by decide) dX10_leastNails_12 rfl ?_
    refine ab_ishl (pc2 := 16) dX10_leastNails_15 rfl ?_
    refine ab_icmp_ge (tgt := 91) (pc2 := 19) dX10_leastNails_16 (by decide) rfl hf (fun c1 hf => ?_) (fun c1 hf => ?_)
    · refine ab_iload_n (pc2 := 92) dX10_leastNails_91 rfl rfl ?_
      cases Option.some.inj hf
      exact ab_retI dX10_leastNails_92 (Or.inl rfl) (Nat.le_refl _) (Nat.le_refl _) ⟨rfl, rfl⟩
    · refine ab_iload_n (pc2 := 20) dX10_leastNails_19 rfl rfl ?_
      refine ab_if_ge (tgt := 27) (pc2 := 23) dX10_leastNails_20 (by decide) rfl hf (fun c2 hf => ?_) (fun c2 hf => ?_)
      · refine ab_iload_n (pc2 := 28) dX10_leastNails_27 rfl rfl ?_
        obtain ⟨w3, ew3, hf⟩ := ab_bind hf
        refine ab_callS (pc2 := 31) (st := []) (m_J6_bitCount_0f7a4 (d := (d + 4)) ew3) mf_J6_bitCount_0f7a4 tw_240 tw_203 dX10_leastNails_28 rfl (by omega) (Nat.le_refl _) (Nat.le_refl _) rfl (Nat.le_of_ble_eq_true rfl) (ab_kPi ?_)
        refine ab_iload (pc2 := 33) dX10_leastNails_31 rfl rfl ?_
        obtain ⟨w4, ew4, hf⟩ := ab_bind hf
        refine ab_callS (pc2 := 36) (st := [_]) (m_J6_bitCount_0f7a4 (d := (d + 4)) ew4) mf_J6_bitCount_0f7a4 tw_240 tw_203 dX10_leastNails_33 rfl (by omega) (Nat.le_refl _) (Nat.le_refl _) rfl (Nat.le_of_ble_eq_true rfl) (ab_kPi ?_)
        refine ab_isub (pc2 := 37) dX10_leastNails_36 rfl ?_
        refine ab_istore (pc2 := 39) (lo2 := [some (va_rf _), some (.int _), some (.int _), some (.int _), some (.int _), some (.int _)]) dX10_leastNails_37 rfl (by decide) rfl ?_
        refine ab_iload (pc2 := 41) dX10_leastNails_39 rfl rfl ?_
        refine ab_if_ge (tgt := 47) (pc2 := 44) dX10_leastNails_41 (by decide) rfl hf (fun c5 hf => ?_) (fun c5 hf => ?_)
        · refine ab_aload_n (x := _) (pc2 := 48) dX10_leastNails_47 rfl rfl ?_
          refine ab_iload (pc2 := 50) dX10_leastNails_48 rfl rfl ?_
          obtain ⟨w6, ew6, hf⟩ := ab_bind hf
          refine ab_callV (pc2 := 53) (st := []) rfl ht0 (by decide) (m_X10_play (d := (d + 0)) ht0 ew6) mf_X10_play tw_241 tw_194 ts_X10_play (Or.inl (by decide +kernel)) dX10_leastNails_50 rfl (by omega) (Nat.le_refl _) (Nat.le_refl _) rfl (Nat.le_of_ble_eq_true rfl) (ab_kPv ?_)
          refine ab_iload_n (pc2 := 54) dX10_leastNails_53 rfl rfl ?_
          refine ab_aload_n (x := _) (pc2 := 55) dX10_leastNails_54 rfl rfl ?_
          refine ab_getI (pc2 := 58) rfl ht0 fa_X10_38 (by decide) dX10_leastNails_55 rfl ?_
          refine ab_iconst (pc2 := 59) (v := (-1)) dX10_leastNails_58 rfl ab_k_iconst_m1 ?_
          refine ab_ixor (pc2 := 60) dX10_leastNails_59 rfl ?_
          refine ab_iand (pc2 := 61) dX10_leastNails_60 rfl ?_
          refine ab_if_ne (tgt := 85) (pc2 := 64) dX10_leastNails_61 (by decide) rfl hf (fun c7 hf => ?_) (fun c7 hf => ?_)
          · refine ab_iinc (pc2 := 88) (v := _ + 1) (lo2 := [some (va_rf _), some (.int _), some (.int _), some (.int _), some (.int _), some (.int _)]) dX10_leastNails_85 rfl rfl rfl (by decide) rfl ?_
            refine ab_goto (tgt := 8) dX10_leastNails_88 (by decide) ?_
            exact ab_weak (ih _ _ _ _ _ hf) (ab_leS (ab_leS (ab_leS (ab_leS (ab_leS (ab_leN ab_le0))))))
          · refine ab_iload (pc2 := 66) dX10_leastNails_64 rfl rfl ?_
            refine ab_if_gt (tgt := 77) (pc2 := 69) dX10_leastNails_66 (by decide) rfl hf (fun c8 hf => ?_) (fun c8 hf => ?_)
            · exact ab_weak (x_X10_leastNails_b77 ht0 ih hf) (ab_leS (ab_leS (ab_leN (ab_leN (ab_leS (ab_leN ab_le0))))))
            · refine ab_aload_n (x := _) (pc2 := 70) dX10_leastNails_69 rfl rfl ?_
              refine ab_getI (pc2 := 73) rfl ht0 fa_X10_44 (by decide) dX10_leastNails_70 rfl ?_
              refine ab_iload_n (pc2 := 74) dX10_leastNails_73 rfl rfl ?_
              refine ab_icmp_ge (tgt := 85) (pc2 := 77) dX10_leastNails_74 (by decide) rfl hf (fun c9 hf => ?_) (fun c9 hf => ?_)
              · refine ab_iinc (pc2 := 88) (v := _ + 1) (lo2 := [some (va_rf _), some (.int _), some (.int _), some (.int _), some (.int _), some (.int _)]) dX10_leastNails_85 rfl rfl rfl (by decide) rfl ?_
                refine ab_goto (tgt := 8) dX10_leastNails_88 (by decide) ?_
                exact ab_weak (ih _ _ _ _ _ hf) (ab_leS (ab_leS (ab_leS (ab_leS (ab_leS (ab_leN ab_le0))))))
              · exact ab_weak (x_X10_leastNails_b77 ht0 ih hf) (ab_leS (ab_leS (ab_leN (ab_leN (ab_leS (ab_leN ab_le0))))))
        · refine ab_goto (tgt := 85) dX10_leastNails_44 (by decide) ?_
          refine ab_iinc (pc2 := 88) (v := _ + 1) (lo2 := [some (va_rf _), some (.int _), some (.int _), some (.int _), some (.int _), some (.int _)]) dX10_leastNails_85 rfl rfl rfl (by decide) rfl ?_
          refine ab_goto (tgt := 8) dX10_leastNails_88 (by decide) ?_
          exact ab_weak (ih _ _ _ _ _ hf) (ab_leS (ab_leS (ab_leS (ab_leS (ab_leS (ab_leN ab_le0))))))
      · refine ab_iconst (pc2 := 24) (v := 1) dX10_leastNails_23 rfl ab_k_iconst_1 ?_
        refine ab_goto (tgt := 37) dX10_leastNails_24 (by decide) ?_
        refine ab_istore (pc2 := 39) (lo2 := [some (va_rf _), some (.int _), some (.int _), some (.int _), some (.int _), some (.int _)]) dX10_leastNails_37 rfl (by decide) rfl ?_
        refine ab_iload (pc2 := 41) dX10_leastNails_39 rfl rfl ?_
        refine ab_if_ge (tgt := 47) (pc2 := 44) dX10_leastNails_41 (by decide) rfl hf (fun c10 hf => ?_) (fun c10 hf => ?_)
        · refine ab_aload_n (x := _) (pc2 := 48) dX10_leastNails_47 rfl rfl ?_
          refine ab_iload (pc2 := 50) dX10_leastNails_48 rfl rfl ?_
          obtain ⟨w11, ew11, hf⟩ := ab_bind hf
          refine ab_callV (pc2 := 53) (st := []) rfl ht0 (by decide) (m_X10_play (d := (d + 0)) ht0 ew11) mf_X10_play tw_241 tw_194 ts_X10_play (Or.inl (by decide +kernel)) dX10_leastNails_50 rfl (by omega) (Nat.le_refl _) (Nat.le_refl _) rfl (Nat.le_of_ble_eq_true rfl) (ab_kPv ?_)
          refine ab_iload_n (pc2 := 54) dX10_leastNails_53 rfl rfl ?_
          refine ab_aload_n (x := _) (pc2 := 55) dX10_leastNails_54 rfl rfl ?_
          refine ab_getI (pc2 := 58) rfl ht0 fa_X10_38 (by decide) dX10_leastNails_55 rfl ?_
          refine ab_iconst (pc2 := 59) (v := (-1)) dX10_leastNails_58 rfl ab_k_iconst_m1 ?_
          refine ab_ixor (pc2 := 60) dX10_leastNails_59 rfl ?_
          refine ab_iand (pc2 := 61) dX10_leastNails_60 rfl ?_
          refine ab_if_ne (tgt := 85) (pc2 := 64) dX10_leastNails_61 (by decide) rfl hf (fun c12 hf => ?_) (fun c12 hf => ?_)
          · refine ab_iinc (pc2 := 88) (v := _ + 1) (lo2 := [some (va_rf _), some (.int _), some (.int _), some (.int _), some (.int _), some (.int _)]) dX10_leastNails_85 rfl rfl rfl (by decide) rfl ?_
            refine ab_goto (tgt := 8) dX10_leastNails_88 (by decide) ?_
            exact ab_weak (ih _ _ _ _ _ hf) (ab_leS (ab_leS (ab_leS (ab_leS (ab_leS (ab_leN ab_le0))))))
          · refine ab_iload (pc2 := 66) dX10_leastNails_64 rfl rfl ?_
            refine ab_if_gt (tgt := 77) (pc2 := 69) dX10_leastNails_66 (by decide) rfl hf (fun c13 hf => ?_) (fun c13 hf => ?_)
            · exact ab_weak (x_X10_leastNails_b77 ht0 ih hf) (ab_leS (ab_leS (ab_leN (ab_leN (ab_leS (ab_leN ab_le0))))))
            · refine ab_aload_n (x := _) (pc2 := 70) dX10_leastNails_69 rfl rfl ?_
              refine ab_getI (pc2 := 73) rfl ht0 fa_X10_44 (by decide) dX10_leastNails_70 rfl ?_
              refine ab_iload_n (pc2 := 74) dX10_leastNails_73 rfl rfl ?_
              refine ab_icmp_ge (tgt := 85) (pc2 := 77) dX10_leastNails_74 (by decide) rfl hf (fun c14 hf => ?_) (fun c14 hf => ?_)
              · refine ab_iinc (pc2 := 88) (v := _ + 1) (lo2 := [some (va_rf _), some (.int _), some (.int _), some (.int _), some (.int _), some (.int _)]) dX10_leastNails_85 rfl rfl rfl (by decide) rfl ?_
                refine ab_goto (tgt := 8) dX10_leastNails_88 (by decide) ?_
                exact ab_weak (ih _ _ _ _ _ hf) (ab_leS (ab_leS (ab_leS (ab_leS (ab_leS (ab_leN ab_le0))))))
              · exact ab_weak (x_X10_leastNails_b77 ht0 ih hf) (ab_leS (ab_leS (ab_leN (ab_leN (ab_leS (ab_leN ab_le0))))))
        · refine ab_goto (tgt := 85) dX10_leastNails_44 (by decide) ?_
          refine ab_iinc (pc2 := 88) (v := _ + 1) (lo2 := [some (va_rf _), some (.int _), some (.int _), some (.int _), some (.int _), some (.int _)]) dX10_leastNails_85 rfl rfl rfl (by decide) rfl ?_
          refine ab_goto (tgt := 8) dX10_leastNails_88 (by decide) ?_
          exact ab_weak (ih _ _ _ _ _ hf) (ab_leS (ab_leS (ab_leS (ab_leS (ab_leS (ab_leN ab_le0))))))
set_option maxHeartbeats 4000000 in
set_option maxRecDepth 100000 in
theorem x_X10_leastNails {d : Nat} {t0 : Nat} {i1 : Int32} {h : ab_HP} {r : (Int32 × ab_HP)} (ht0 : (ab_shp t0).1 = 2) (hf : f_X10_leastNails t0 i1 h = some r) : ab_T mX10_leastNails (d + 5) 0 0 0 0 0 [some (va_rf (some t0)), some (.int i1), none, none, none, none] [] h (ab_Pi r.1 r.2) := by
  unfold f_X10_leastNails at hf
  refine ab_bipush (pc2 := 2) (v := (-4)) dX10_leastNails_0 rfl ab_k_bipush_m4 ?_
  refine ab_istore_n (pc2 := 3) (lo2 := [some (va_rf _), some (.int _), some (.int _), none, none, none]) dX10_leastNails_2 rfl (by decide) rfl ?_
  refine ab_iconst (pc2 := 4) (v := 0) dX10_leastNails_3 rfl ab_k_iconst_0 ?_
  refine ab_istore_n (pc2 := 5) (lo2 := [some (va_rf _), some (.int _), some (.int _), some (.int _), none, none]) dX10_leastNails_4 rfl (by decide) rfl ?_
  refine ab_iconst (pc2 := 6) (v := 0) dX10_leastNails_5 rfl ab_k_iconst_0 ?_
  refine ab_istore (pc2 := 8) (lo2 := [some (va_rf _), some (.int _), some (.int _), some (.int _), some (.int _), none]) dX10_leastNails_6 rfl (by decide) rfl ?_
  exact ab_weak (x_X10_leastNails_l8 ht0 _ _ _ _ _ _ hf) (ab_leS (ab_leS (ab_leS (ab_leS (ab_leS (ab_leN ab_le0))))))
set_option maxHeartbeats 4000000 in
set_option maxRecDepth 100000 in
theorem m_X10_leastNails {d : Nat} {t0 : Nat} {i1 : Int32} {h : ab_HP} {r : (Int32 × ab_HP)} (ht0 : (ab_shp t0).1 = 2) (hf : f_X10_leastNails t0 i1 h = some r) : ab_MET mX10_leastNails (d + 5) 0 0 [va_rf (some t0), .int i1] h (ab_Pi r.1 r.2) := ab_met (by decide +kernel) (by decide +kernel) (Nat.le_of_ble_eq_true rfl) rfl (x_X10_leastNails ht0 hf)
set_option maxHeartbeats 4000000 in
set_option maxRecDepth 100000 in
theorem x_X6_rowRefusal {d : Nat} {t0 : Nat} {h : ab_HP} {r : Int32} (ht0 : (ab_shp t0).1 = 3) (hf : f_X6_rowRefusal t0 h = some r) : ab_T mX6_rowRefusal (d + 1) 0 0 0 0 0 [some (va_rf (some t0))] [] h (ab_Pi r h) := by
  unfold f_X6_rowRefusal at hf
  refine ab_aload_n (x := _) (pc2 := 1) dX6_rowRefusal_0 rfl rfl ?_
  obtain ⟨w1, ew1, hf⟩ := ab_bind hf
  refine ab_callV (pc2 := 4) (st := []) rfl ht0 (by decide) (m_X6_isEmpty (d := (d + 0)) ht0 ew1) mf_X6_isEmpty tw_17 tw_16 ts_X6_isEmpty (Or.inl (by decide +kernel)) dX6_rowRefusal_1 rfl (by omega) (Nat.le_refl _) (Nat.le_refl _) rfl (Nat.le_of_ble_eq_true rfl) (ab_kPb fun z2 => ?_)
  refine ab_if_eq (tgt := 12) (pc2 := 7) dX6_rowRefusal_4 (by decide) rfl hf (fun c3 hf => ?_) (fun c3 hf => ?_)
  · refine ab_aload_n (x := _) (pc2 := 13) dX6_rowRefusal_12 rfl rfl ?_
    refine ab_getI (pc2 := 16) rfl ht0 fa_X6_15 (by decide) dX6_rowRefusal_13 rfl ?_
    refine ab_iconst (pc2 := 17) (v := (-1)) dX6_rowRefusal_16 rfl ab_k_iconst_m1 ?_
    refine ab_icmp_ne (tgt := 25) (pc2 := 20) dX6_rowRefusal_17 (by decide) rfl hf (fun c4 hf => ?_) (fun c4 hf => ?_)
    · refine ab_iconst (pc2 := 26) (v := 0) dX6_rowRefusal_25 rfl ab_k_iconst_0 ?_
      cases Option.some.inj hf
      exact ab_retI dX6_rowRefusal_26 (Or.inl rfl) (Nat.le_refl _) (Nat.le_refl _) ⟨rfl, rfl⟩
    · refine ab_bipush (pc2 := 22) (v := (-12)) dX6_rowRefusal_20 rfl ab_k_bipush_m12 ?_
      refine ab_goto (tgt := 26) dX6_rowRefusal_22 (by decide) ?_
      cases Option.some.inj hf
      exact ab_retI dX6_rowRefusal_26 (Or.inl rfl) (Nat.le_refl _) (Nat.le_refl _) ⟨rfl, rfl⟩
  · refine ab_bipush (pc2 := 9) (v := (-11)) dX6_rowRefusal_7 rfl ab_k_bipush_m11 ?_
    refine ab_goto (tgt := 26) dX6_rowRefusal_9 (by decide) ?_
    cases Option.some.inj hf
    exact ab_retI dX6_rowRefusal_26 (Or.inl rfl) (Nat.le_refl _) (Nat.le_refl _) ⟨rfl, rfl⟩
set_option maxHeartbeats 4000000 in
set_option maxRecDepth 100000 in
theorem m_X6_rowRefusal {d : Nat} {t0 : Nat} {h : ab_HP} {r : Int32} (ht0 : (ab_shp t0).1 = 3) (hf : f_X6_rowRefusal t0 h = some r) : ab_MET mX6_rowRefusal (d + 1) 0 0 [va_rf (some t0)] h (ab_Pi r h) := ab_met (by decide +kernel) (by decide +kernel) (Nat.le_of_ble_eq_true rfl) rfl (x_X6_rowRefusal ht0 hf)
set_option maxHeartbeats 4000000 in
set_option maxRecDepth 100000 in
theorem x_X6_leastNumber {d : Nat} {t0 : Nat} {h : ab_HP} {r : Int32} (ht0 : (ab_shp t0).1 = 3) (hf : f_X6_leastNumber t0 h = some r) : ab_T mX6_leastNumber (d + 0) 0 0 0 0 0 [some (va_rf (some t0))] [] h (ab_Pi r h) := by
  unfold f_X6_leastNumber at hf
  refine ab_aload_n (x := _) (pc2 := 1) dX6_leastNumber_0 rfl rfl ?_
  refine ab_getI (pc2 := 4) rfl ht0 fa_X6_15 (by decide) dX6_leastNumber_1 rfl ?_
  refine ab_if_ne (tgt := 12) (pc2 := 7) dX6_leastNumber_4 (by decide) rfl hf (fun c1 hf => ?_) (fun c1 hf => ?_)
  · refine ab_aload_n (x := _) (pc2 := 13) dX6_leastNumber_12 rfl rfl ?_
    refine ab_getI (pc2 := 16) rfl ht0 fa_X6_15 (by decide) dX6_leastNumber_13 rfl ?_
    refine ab_iconst (pc2 := 17) (v := 1) dX6_leastNumber_16 rfl ab_k_iconst_1 ?_
    refine ab_icmp_ne (tgt := 26) (pc2 := 20) dX6_leastNumber_17 (by decide) rfl hf (fun c2 hf => ?_) (fun c2 hf => ?_)
    · refine ab_ldc (pc2 := 28) (v := (-2147483648)) dX6_leastNumber_26 rfl tw_22 ?_
      cases Option.some.inj hf
      exact ab_retI dX6_leastNumber_28 (Or.inl rfl) (Nat.le_refl _) (Nat.le_refl _) ⟨rfl, rfl⟩
    · refine ab_sipush (pc2 := 23) (v := (-32768)) dX6_leastNumber_20 rfl ab_k_sipush_m32768 ?_
      refine ab_goto (tgt := 28) dX6_leastNumber_23 (by decide) ?_
      cases Option.some.inj hf
      exact ab_retI dX6_leastNumber_28 (Or.inl rfl) (Nat.le_refl _) (Nat.le_refl _) ⟨rfl, rfl⟩
  · refine ab_bipush (pc2 := 9) (v := (-128)) dX6_leastNumber_7 rfl ab_k_bipush_m128 ?_
    refine ab_goto (tgt := 28) dX6_leastNumber_9 (by decide) ?_
    cases Option.some.inj hf
    exact ab_retI dX6_leastNumber_28 (Or.inl rfl) (Nat.le_refl _) (Nat.le_refl _) ⟨rfl, rfl⟩
set_option maxHeartbeats 4000000 in
set_option maxRecDepth 100000 in
theorem m_X6_leastNumber {d : Nat} {t0 : Nat} {h : ab_HP} {r : Int32} (ht0 : (ab_shp t0).1 = 3) (hf : f_X6_leastNumber t0 h = some r) : ab_MET mX6_leastNumber (d + 0) 0 0 [va_rf (some t0)] h (ab_Pi r h) := ab_met (by decide +kernel) (by decide +kernel) (Nat.le_of_ble_eq_true rfl) rfl (x_X6_leastNumber ht0 hf)
set_option maxHeartbeats 4000000 in
set_option maxRecDepth 100000 in
theorem x_X6_hold {d : Nat} {t0 : Nat} {i1 : Option Nat} {h : ab_HP} {r : ab_HP} (ht0 : (ab_shp t0).1 = 3) (T_i1 : ∀ z, i1 = some z → (ab_shp z).1 = 4) (hf : f_X6_hold t0 i1 h = some r) : ab_T mX6_hold (d + 0) 0 0 0 0 0 [some (va_rf (some t0)), some (va_rf i1)] [] h (ab_Pv r) := by
  unfold f_X6_hold at hf
  refine ab_aload_n (x := _) (pc2 := 1) dX6_hold_0 rfl rfl ?_
  refine ab_aload_n (x := _) (pc2 := 2) dX6_hold_1 rfl rfl ?_
  obtain ⟨h1, eh1, hf⟩ := ab_let_x hf
  refine ab_putR (pc2 := 5) rfl ht0 fa_X6_19 T_i1 (fun z => by cases z) dX6_hold_2 rfl ?_
  refine ab_topH eh1 ?_
  refine ab_aload_n (x := _) (pc2 := 6) dX6_hold_5 rfl rfl ?_
  refine ab_iconst (pc2 := 7) (v := (-1)) dX6_hold_6 rfl ab_k_iconst_m1 ?_
  obtain ⟨h2, eh2, hf⟩ := ab_let_x hf
  refine ab_putI (pc2 := 10) rfl ht0 fa_X6_15 (Or.inl rfl) (fun z => by cases z) dX6_hold_7 rfl ?_
  refine ab_topH eh2 ?_
  refine ab_aload_n (x := _) (pc2 := 11) dX6_hold_10 rfl rfl ?_
  refine ab_iconst (pc2 := 12) (v := 0) dX6_hold_11 rfl ab_k_iconst_0 ?_
  obtain ⟨h3, eh3, hf⟩ := ab_let_x hf
  refine ab_putI (pc2 := 15) rfl ht0 fa_X6_23 (Or.inl rfl) (fun z => by cases z) dX6_hold_12 rfl ?_
  refine ab_topH eh3 ?_
  cases Option.some.inj hf
  exact ab_retV dX6_hold_15 rfl (Nat.le_refl _) (Nat.le_refl _) ⟨rfl, rfl⟩
set_option maxHeartbeats 4000000 in
set_option maxRecDepth 100000 in
theorem m_X6_hold {d : Nat} {t0 : Nat} {i1 : Option Nat} {h : ab_HP} {r : ab_HP} (ht0 : (ab_shp t0).1 = 3) (T_i1 : ∀ z, i1 = some z → (ab_shp z).1 = 4) (hf : f_X6_hold t0 i1 h = some r) : ab_MET mX6_hold (d + 0) 0 0 [va_rf (some t0), va_rf i1] h (ab_Pv r) := ab_met (by decide +kernel) (by decide +kernel) (by simp [ab_lo, ab_rf1, ab_cI, ab_cJ]) (by simp [ab_lo0, ab_lo, ab_rf1, ab_cI, ab_cJ, List.replicate]) (x_X6_hold ht0 T_i1 hf)
set_option maxHeartbeats 4000000 in
set_option maxRecDepth 100000 in
theorem x_X6_holdRow_l17 {d : Nat} {t0 : Nat} {r : ab_HP} (ht0 : (ab_shp t0).1 = 3) : ∀ (n : Nat) (i3 : Int32) (h : ab_HP), f_X6_holdRow_l17 t0 n i3 h = some r → ab_T mX6_holdRow (d + 0) 0 0 0 0 17 [some (va_rf (some t0)), none, none, some (.int i3)] [] h (ab_Pv r) := by
  intro n
  induction n with
  | zero =>
    intro i3 h hf
    rw [f_X6_holdRow_l17] at hf
    cases hf
  | succ n ih =>
    intro i3 h hf
    rw [f_X6_holdRow_l17] at hf
    refine ab_iload_n (pc2 := 18) dX6_holdRow_17 rfl rfl ?_
    refine ab_aload_n (x := _) (pc2 := 19) dX6_holdRow_18 rfl rfl ?_
    refine ab_getR (pc2 := 22) rfl ht0 fa_X6_11 dX6_holdRow_19 rfl (fun T4 => ?_)
    obtain ⟨q5, hq5, hf⟩ := ab_bind hf
    refine ab_alen (pc2 := 23) hq5 (Or.inl (T4 q5 hq5)) dX6_holdRow_22 rfl ?_
    refine ab_icmp_ge (tgt := 39) (pc2 := 26) dX6_holdRow_23 (by decide) rfl hf (fun c6 hf => ?_) (fun c6 hf => ?_)
    · cases Option.some.inj hf
      exact ab_retV dX6_holdRow_39 rfl (Nat.le_refl _) (Nat.le_refl _) ⟨rfl, rfl⟩
    · refine ab_aload_n (x := _) (pc2 := 27) dX6_holdRow_26 rfl rfl ?_
      refine ab_getR (pc2 := 30) rfl ht0 fa_X6_11 dX6_holdRow_27 rfl (fun T7 => ?_)
      refine ab_iload_n (pc2 := 31) dX6_holdRow_30 rfl rfl ?_
      refine ab_iconst (pc2 := 32) (v := 0) dX6_holdRow_31 rfl ab_k_iconst_0 ?_
      obtain ⟨q8, hq8, hf⟩ := ab_bind hf
      obtain ⟨b9, hf⟩ := ab_guard hf
      obtain ⟨h10, eh10, hf⟩ := ab_let_x hf
      refine ab_iast (pc2 := 33) hq8 (T7 q8 hq8) (ab_in_vp b9) dX6_holdRow_32 rfl ?_
      refine ab_topH eh10 ?_
      refine ab_iinc (pc2 := 36) (v := _ + 1) (lo2 := [some (va_rf _), none, none, some (.int _)]) dX6_holdRow_33 rfl rfl rfl (by decide) rfl ?_
      refine ab_goto (tgt := 17) dX6_holdRow_36 (by decide) ?_
      exact ab_weak (ih _ _ hf) (ab_leS (ab_leN (ab_leN (ab_leS ab_le0))))
set_option maxHeartbeats 4000000 in
set_option maxRecDepth 100000 in
theorem x_X6_holdRow {d : Nat} {t0 : Nat} {i1 : Int32} {i2 : Int32} {h : ab_HP} {r : ab_HP} (ht0 : (ab_shp t0).1 = 3) (hf : f_X6_holdRow t0 i1 i2 h = some r) : ab_T mX6_holdRow (d + 0) 0 0 0 0 0 [some (va_rf (some t0)), some (.int i1), some (.int i2), none] [] h (ab_Pv r) := by
  unfold f_X6_holdRow at hf
  refine ab_aload_n (x := _) (pc2 := 1) dX6_holdRow_0 rfl rfl ?_
  refine ab_null (pc2 := 2) dX6_holdRow_1 rfl ?_
  obtain ⟨h1, eh1, hf⟩ := ab_let_x hf
  refine ab_putR (pc2 := 5) rfl ht0 fa_X6_19 (fun z hz => by cases hz) (fun z => by cases z) dX6_holdRow_2 rfl ?_
  refine ab_topH eh1 ?_
  refine ab_aload_n (x := _) (pc2 := 6) dX6_holdRow_5 rfl rfl ?_
  refine ab_iload_n (pc2 := 7) dX6_holdRow_6 rfl rfl ?_
  obtain ⟨h2, eh2, hf⟩ := ab_let_x hf
  refine ab_putI (pc2 := 10) rfl ht0 fa_X6_15 (Or.inl rfl) (fun z => by cases z) dX6_holdRow_7 rfl ?_
  refine ab_topH eh2 ?_
  refine ab_aload_n (x := _) (pc2 := 11) dX6_holdRow_10 rfl rfl ?_
  refine ab_iload_n (pc2 := 12) dX6_holdRow_11 rfl rfl ?_
  obtain ⟨h3, eh3, hf⟩ := ab_let_x hf
  refine ab_putI (pc2 := 15) rfl ht0 fa_X6_23 (Or.inl rfl) (fun z => by cases z) dX6_holdRow_12 rfl ?_
  refine ab_topH eh3 ?_
  refine ab_iconst (pc2 := 16) (v := 0) dX6_holdRow_15 rfl ab_k_iconst_0 ?_
  refine ab_istore_n (pc2 := 17) (lo2 := [some (va_rf _), some (.int _), some (.int _), some (.int _)]) dX6_holdRow_16 rfl (by decide) rfl ?_
  exact ab_weak (x_X6_holdRow_l17 ht0 _ _ _ hf) (ab_leS (ab_leN (ab_leN (ab_leS ab_le0))))
set_option maxHeartbeats 4000000 in
set_option maxRecDepth 100000 in
theorem m_X6_holdRow {d : Nat} {t0 : Nat} {i1 : Int32} {i2 : Int32} {h : ab_HP} {r : ab_HP} (ht0 : (ab_shp t0).1 = 3) (hf : f_X6_holdRow t0 i1 i2 h = some r) : ab_MET mX6_holdRow (d + 0) 0 0 [va_rf (some t0), .int i1, .int i2] h (ab_Pv r) := ab_met (by decide +kernel) (by decide +kernel) (Nat.le_of_ble_eq_true rfl) rfl (x_X6_holdRow ht0 hf)
set_option maxHeartbeats 4000000 in
set_option maxRecDepth 100000 in
theorem x_X6_write {d : Nat} {t0 : Nat} {i1 : Int32} {i2 : Int32} {h : ab_HP} {r : (Int32 × ab_HP)} (ht0 : (ab_shp t0).1 = 3) (hf : f_X6_write t0 i1 i2 h = some r) : ab_T mX6_write (d + 1) 0 0 0 0 0 [some (va_rf (some t0)), some (.int i1), some (.int i2)] [] h (ab_Pb r.1 r.2) := by
  unfold f_X6_write at hf
  refine ab_aload_n (x := _) (pc2 := 1) dX6_write_0 rfl rfl ?_
  refine ab_iload_n (pc2 := 2) dX6_write_1 rfl rfl ?_
  obtain ⟨w1, ew1, hf⟩ := ab_bind hf
  refine ab_callV (pc2 := 5) (st := []) rfl ht0 (by decide) (m_X6_hasPlace (d := (d + 0)) ht0 ew1) mf_X6_hasPlace tw_21 tw_20 ts_X6_hasPlace (Or.inl (by decide +kernel)) dX6_write_2 rfl (by omega) (Nat.le_refl _) (Nat.le_refl _) rfl (Nat.le_of_ble_eq_true rfl) (ab_kPb fun z2 => ?_)
  refine ab_if_ne (tgt := 10) (pc2 := 8) dX6_write_5 (by decide) rfl hf (fun c3 hf => ?_) (fun c3 hf => ?_)
  · refine ab_aload_n (x := _) (pc2 := 11) dX6_write_10 rfl rfl ?_
    refine ab_getR (pc2 := 14) rfl ht0 fa_X6_11 dX6_write_11 rfl (fun T4 => ?_)
    refine ab_iload_n (pc2 := 15) dX6_write_14 rfl rfl ?_
    refine ab_aload_n (x := _) (pc2 := 16) dX6_write_15 rfl rfl ?_
    refine ab_getI (pc2 := 19) rfl ht0 fa_X6_15 (by decide) dX6_write_16 rfl ?_
    refine ab_if_ne (tgt := 27) (pc2 := 22) dX6_write_19 (by decide) rfl hf (fun c5 hf => ?_) (fun c5 hf => ?_)
    · refine ab_aload_n (x := _) (pc2 := 28) dX6_write_27 rfl rfl ?_
      refine ab_getI (pc2 := 31) rfl ht0 fa_X6_15 (by decide) dX6_write_28 rfl ?_
      refine ab_iconst (pc2 := 32) (v := 1) dX6_write_31 rfl ab_k_iconst_1 ?_
      refine ab_icmp_ne (tgt := 40) (pc2 := 35) dX6_write_32 (by decide) rfl hf (fun c6 hf => ?_) (fun c6 hf => ?_)
      · refine ab_iload_n (pc2 := 41) dX6_write_40 rfl rfl ?_
        obtain ⟨w7, ew7, hf⟩ := ab_bind hf
        refine ab_callSN (pc2 := 44) (st := []) (m_X11_store (d := (d + 0)) T4 ew7) mf_X11_store tn_X6_39 tw_169 dX6_write_41 rfl (by omega) (Nat.le_refl _) (Nat.le_refl _) rfl (Nat.le_of_ble_eq_true rfl) (ab_kPv ?_)
        refine ab_iconst (pc2 := 45) (v := 1) dX6_write_44 rfl ab_k_iconst_1 ?_
        cases Option.some.inj hf
        exact ab_retI dX6_write_45 (Or.inr ⟨rfl, (Or.inr rfl)⟩) (Nat.le_refl _) (Nat.le_refl _) ⟨rfl, rfl, (Or.inr rfl)⟩
      · refine ab_iload_n (pc2 := 36) dX6_write_35 rfl rfl ?_
        refine ab_i2s (pc2 := 37) dX6_write_36 rfl ?_
        refine ab_goto (tgt := 41) dX6_write_37 (by decide) ?_
        obtain ⟨w8, ew8, hf⟩ := ab_bind hf
        refine ab_callSN (pc2 := 44) (st := []) (m_X11_store (d := (d + 0)) T4 ew8) mf_X11_store tn_X6_39 tw_169 dX6_write_41 rfl (by omega) (Nat.le_refl _) (Nat.le_refl _) rfl (Nat.le_of_ble_eq_true rfl) (ab_kPv ?_)
        refine ab_iconst (pc2 := 45) (v := 1) dX6_write_44 rfl ab_k_iconst_1 ?_
        cases Option.some.inj hf
        exact ab_retI dX6_write_45 (Or.inr ⟨rfl, (Or.inr rfl)⟩) (Nat.le_refl _) (Nat.le_refl _) ⟨rfl, rfl, (Or.inr rfl)⟩
    · refine ab_iload_n (pc2 := 23) dX6_write_22 rfl rfl ?_
      refine ab_i2b (pc2 := 24) dX6_write_23 rfl ?_
      refine ab_goto (tgt := 41) dX6_write_24 (by decide) ?_
      obtain ⟨w9, ew9, hf⟩ := ab_bind hf
      refine ab_callSN (pc2 := 44) (st := []) (m_X11_store (d := (d + 0)) T4 ew9) mf_X11_store tn_X6_39 tw_169 dX6_write_41 rfl (by omega) (Nat.le_refl _) (Nat.le_refl _) rfl (Nat.le_of_ble_eq_true rfl) (ab_kPv ?_)
      refine ab_iconst (pc2 := 45) (v := 1) dX6_write_44 rfl ab_k_iconst_1 ?_
      cases Option.some.inj hf
      exact ab_retI dX6_write_45 (Or.inr ⟨rfl, (Or.inr rfl)⟩) (Nat.le_refl _) (Nat.le_refl _) ⟨rfl, rfl, (Or.inr rfl)⟩
  · refine ab_iconst (pc2 := 9) (v := 0) dX6_write_8 rfl ab_k_iconst_0 ?_
    cases Option.some.inj hf
    exact ab_retI dX6_write_9 (Or.inr ⟨rfl, (Or.inl rfl)⟩) (Nat.le_refl _) (Nat.le_refl _) ⟨rfl, rfl, (Or.inl rfl)⟩
set_option maxHeartbeats 4000000 in
set_option maxRecDepth 100000 in
theorem m_X6_write {d : Nat} {t0 : Nat} {i1 : Int32} {i2 : Int32} {h : ab_HP} {r : (Int32 × ab_HP)} (ht0 : (ab_shp t0).1 = 3) (hf : f_X6_write t0 i1 i2 h = some r) : ab_MET mX6_write (d + 1) 0 0 [va_rf (some t0), .int i1, .int i2] h (ab_Pb r.1 r.2) := ab_met (by decide +kernel) (by decide +kernel) (Nat.le_of_ble_eq_true rfl) rfl (x_X6_write ht0 hf)
set_option maxHeartbeats 4000000 in
set_option maxRecDepth 100000 in
theorem x_X6_hasPlaces {d : Nat} {t0 : Nat} {i1 : Int32} {i2 : Int32} {h : ab_HP} {r : Int32} (ht0 : (ab_shp t0).1 = 3) (hf : f_X6_hasPlaces t0 i1 i2 h = some r) : ab_T mX6_hasPlaces (d + 0) 0 0 0 0 0 [some (va_rf (some t0)), some (.int i1), some (.int i2)] [] h (ab_Pb r h) := by
  unfold f_X6_hasPlaces at hf
  refine ab_iload_n (pc2 := 1) dX6_hasPlaces_0 rfl rfl ?_
  refine ab_if_lt (tgt := 30) (pc2 := 4) dX6_hasPlaces_1 (by decide) rfl hf (fun c1 hf => ?_) (fun c1 hf => ?_)
  · refine ab_iconst (pc2 := 31) (v := 0) dX6_hasPlaces_30 rfl ab_k_iconst_0 ?_
    cases Option.some.inj hf
    exact ab_retI dX6_hasPlaces_31 (Or.inr ⟨rfl, (Or.inl rfl)⟩) (Nat.le_refl _) (Nat.le_refl _) ⟨rfl, rfl, (Or.inl rfl)⟩
  · refine ab_iload_n (pc2 := 5) dX6_hasPlaces_4 rfl rfl ?_
    refine ab_if_lt (tgt := 30) (pc2 := 8) dX6_hasPlaces_5 (by decide) rfl hf (fun c2 hf => ?_) (fun c2 hf => ?_)
    · refine ab_iconst (pc2 := 31) (v := 0) dX6_hasPlaces_30 rfl ab_k_iconst_0 ?_
      cases Option.some.inj hf
      exact ab_retI dX6_hasPlaces_31 (Or.inr ⟨rfl, (Or.inl rfl)⟩) (Nat.le_refl _) (Nat.le_refl _) ⟨rfl, rfl, (Or.inl rfl)⟩
    · refine ab_iload_n (pc2 := 9) dX6_hasPlaces_8 rfl rfl ?_
      refine ab_aload_n (x := _) (pc2 := 10) dX6_hasPlaces_9 rfl rfl ?_
      refine ab_getI (pc2 := 13) rfl ht0 fa_X6_23 (by decide) dX6_hasPlaces_10 rfl ?_
      refine ab_icmp_gt (tgt := 30) (pc2 := 16) dX6_hasPlaces_13 (by decide) rfl hf (fun c3 hf => ?_) (fun c3 hf => ?_)
      · refine ab_iconst (pc2 := 31) (v := 0) dX6_hasPlaces_30 rfl ab_k_iconst_0 ?_
        cases Option.some.inj hf
        exact ab_retI dX6_hasPlaces_31 (Or.inr ⟨rfl, (Or.inl rfl)⟩) (Nat.le_refl _) (Nat.le_refl _) ⟨rfl, rfl, (Or.inl rfl)⟩
      · refine ab_iload_n (pc2 := 17) dX6_hasPlaces_16 rfl rfl ?_
        refine ab_aload_n (x := _) (pc2 := 18) dX6_hasPlaces_17 rfl rfl ?_
        refine ab_getI (pc2 := 21) rfl ht0 fa_X6_23 (by decide) dX6_hasPlaces_18 rfl ?_
        refine ab_iload_n (pc2 := 22) dX6_hasPlaces_21 rfl rfl ?_
        refine ab_isub (pc2 := 23) dX6_hasPlaces_22 rfl ?_
        refine ab_icmp_gt (tgt := 30) (pc2 := 26) dX6_hasPlaces_23 (by decide) rfl hf (fun c4 hf => ?_) (fun c4 hf => ?_)
        · refine ab_iconst (pc2 := 31) (v := 0) dX6_hasPlaces_30 rfl ab_k_iconst_0 ?_
          cases Option.some.inj hf
          exact ab_retI dX6_hasPlaces_31 (Or.inr ⟨rfl, (Or.inl rfl)⟩) (Nat.le_refl _) (Nat.le_refl _) ⟨rfl, rfl, (Or.inl rfl)⟩
        · refine ab_iconst (pc2 := 27) (v := 1) dX6_hasPlaces_26 rfl ab_k_iconst_1 ?_
          refine ab_goto (tgt := 31) dX6_hasPlaces_27 (by decide) ?_
          cases Option.some.inj hf
          exact ab_retI dX6_hasPlaces_31 (Or.inr ⟨rfl, (Or.inr rfl)⟩) (Nat.le_refl _) (Nat.le_refl _) ⟨rfl, rfl, (Or.inr rfl)⟩
set_option maxHeartbeats 4000000 in
set_option maxRecDepth 100000 in
theorem m_X6_hasPlaces {d : Nat} {t0 : Nat} {i1 : Int32} {i2 : Int32} {h : ab_HP} {r : Int32} (ht0 : (ab_shp t0).1 = 3) (hf : f_X6_hasPlaces t0 i1 i2 h = some r) : ab_MET mX6_hasPlaces (d + 0) 0 0 [va_rf (some t0), .int i1, .int i2] h (ab_Pb r h) := ab_met (by decide +kernel) (by decide +kernel) (Nat.le_of_ble_eq_true rfl) rfl (x_X6_hasPlaces ht0 hf)
set_option maxHeartbeats 4000000 in
set_option maxRecDepth 100000 in
theorem x_X6_deedRefusal {d : Nat} {t0 : Nat} {h : ab_HP} {r : Int32} (ht0 : (ab_shp t0).1 = 3) (hf : f_X6_deedRefusal t0 h = some r) : ab_T mX6_deedRefusal (d + 1) 0 0 0 0 0 [some (va_rf (some t0))] [] h (ab_Pi r h) := by
  unfold f_X6_deedRefusal at hf
  refine ab_aload_n (x := _) (pc2 := 1) dX6_deedRefusal_0 rfl rfl ?_
  obtain ⟨w1, ew1, hf⟩ := ab_bind hf
  refine ab_callV (pc2 := 4) (st := []) rfl ht0 (by decide) (m_X6_isEmpty (d := (d + 0)) ht0 ew1) mf_X6_isEmpty tw_17 tw_16 ts_X6_isEmpty (Or.inl (by decide +kernel)) dX6_deedRefusal_1 rfl (by omega) (Nat.le_refl _) (Nat.le_refl _) rfl (Nat.le_of_ble_eq_true rfl) (ab_kPb fun z2 => ?_)
  refine ab_if_eq (tgt := 12) (pc2 := 7) dX6_deedRefusal_4 (by decide) rfl hf (fun c3 hf => ?_) (fun c3 hf => ?_)
  · refine ab_aload_n (x := _) (pc2 := 13) dX6_deedRefusal_12 rfl rfl ?_
    refine ab_getR (pc2 := 16) rfl ht0 fa_X6_19 dX6_deedRefusal_13 rfl (fun T4 => ?_)
    refine ab_nnul (tgt := 24) (pc2 := 19) dX6_deedRefusal_16 (by decide) rfl hf (fun hq5 hf => ?_) (fun q5 hq5 hf => ?_)
    · refine ab_bipush (pc2 := 21) (v := (-12)) dX6_deedRefusal_19 rfl ab_k_bipush_m12 ?_
      refine ab_goto (tgt := 25) dX6_deedRefusal_21 (by decide) ?_
      cases Option.some.inj hf
      exact ab_retI dX6_deedRefusal_25 (Or.inl rfl) (Nat.le_refl _) (Nat.le_refl _) ⟨rfl, rfl⟩
    · refine ab_iconst (pc2 := 25) (v := 0) dX6_deedRefusal_24 rfl ab_k_iconst_0 ?_
      cases Option.some.inj hf
      exact ab_retI dX6_deedRefusal_25 (Or.inl rfl) (Nat.le_refl _) (Nat.le_refl _) ⟨rfl, rfl⟩
  · refine ab_bipush (pc2 := 9) (v := (-11)) dX6_deedRefusal_7 rfl ab_k_bipush_m11 ?_
    refine ab_goto (tgt := 25) dX6_deedRefusal_9 (by decide) ?_
    cases Option.some.inj hf
    exact ab_retI dX6_deedRefusal_25 (Or.inl rfl) (Nat.le_refl _) (Nat.le_refl _) ⟨rfl, rfl⟩
set_option maxHeartbeats 4000000 in
set_option maxRecDepth 100000 in
theorem m_X6_deedRefusal {d : Nat} {t0 : Nat} {h : ab_HP} {r : Int32} (ht0 : (ab_shp t0).1 = 3) (hf : f_X6_deedRefusal t0 h = some r) : ab_MET mX6_deedRefusal (d + 1) 0 0 [va_rf (some t0)] h (ab_Pi r h) := ab_met (by decide +kernel) (by decide +kernel) (Nat.le_of_ble_eq_true rfl) rfl (x_X6_deedRefusal ht0 hf)
