set_option maxHeartbeats 4000000 in
set_option maxRecDepth 100000 in
theorem x_X11_counted {d : Nat} {t0 : Nat} {i1 : Option Nat} {i2 : Int32} {h : ab_HP} {r : Int32} (ht0 : (ab_shp t0).1 = 0) (T_i1 : ∀ z, i1 = some z → (ab_shp z).1 = 4) (hf : f_X11_counted t0 i1 i2 h = some r) : ab_T mX11_counted (d + 2) 0 0 0 0 0 [some (va_rf (some t0)), some (va_rf i1), some (.int i2)] [] h (ab_Pi r h) := by
  unfold f_X11_counted at hf
  refine ab_aload_n (x := _) (pc2 := 1) dX11_counted_0 rfl rfl ?_
  refine ab_nnul (tgt := 6) (pc2 := 4) dX11_counted_1 (by decide) rfl hf (fun hq1 hf => ?_) (fun q1 hq1 hf => ?_)
  · refine ab_iconst (pc2 := 5) (v := 0) dX11_counted_4 rfl ab_k_iconst_0 ?_
    cases Option.some.inj hf
    exact ab_retI dX11_counted_5 (Or.inl rfl) (Nat.le_refl _) (Nat.le_refl _) ⟨rfl, rfl⟩
  · refine ab_iload_n (pc2 := 7) dX11_counted_6 rfl rfl ?_
    rcases ab_cas hf with ⟨s2, hf⟩ | ⟨s2, hf⟩
    · refine ab_tswK (tgt := 32) (off := 25) dX11_counted_7 s2 (by decide) (by decide) (by decide +kernel) (by decide) ?_
      refine ab_aload_n (x := _) (pc2 := 33) dX11_counted_32 rfl rfl ?_
      refine ab_aload_n (x := _) (pc2 := 34) dX11_counted_33 rfl rfl ?_
      refine ab_getR (pc2 := 37) rfl ht0 fa_X11_10 dX11_counted_34 rfl (fun T3 => ?_)
      obtain ⟨q4, hq4, hf⟩ := ab_bind hf
      refine ab_getI (pc2 := 40) hq4 (T3 q4 hq4) fa_X11_94 (by decide) dX11_counted_37 rfl ?_
      refine ab_aload_n (x := _) (pc2 := 41) dX11_counted_40 rfl rfl ?_
      refine ab_getR (pc2 := 44) rfl ht0 fa_X11_10 dX11_counted_41 rfl (fun T5 => ?_)
      obtain ⟨q6, hq6, hf⟩ := ab_bind hf
      refine ab_getI (pc2 := 47) hq6 (T5 q6 hq6) fa_X11_97 (by decide) dX11_counted_44 rfl ?_
      obtain ⟨w7, ew7, hf⟩ := ab_bind hf
      refine ab_callV (pc2 := 50) (st := []) hq1 (T_i1 q1 hq1) (by decide) (m_X1_mayBeDone (d := (d + 0)) (T_i1 q1 hq1) ew7) mf_X1_mayBeDone tw_151 tw_149 ts_X1_mayBeDone (Or.inr tw_150) dX11_counted_47 rfl (by omega) (Nat.le_refl _) (Nat.le_refl _) rfl (Nat.le_of_ble_eq_true rfl) (ab_kPb fun z8 => ?_)
      refine ab_if_eq (tgt := 57) (pc2 := 53) dX11_counted_50 (by decide) rfl hf (fun c9 hf => ?_) (fun c9 hf => ?_)
      · refine ab_iconst (pc2 := 58) (v := 0) dX11_counted_57 rfl ab_k_iconst_0 ?_
        cases Option.some.inj hf
        exact ab_retI dX11_counted_58 (Or.inl rfl) (Nat.le_refl _) (Nat.le_refl _) ⟨rfl, rfl⟩
      · refine ab_iconst (pc2 := 54) (v := 1) dX11_counted_53 rfl ab_k_iconst_1 ?_
        refine ab_goto (tgt := 58) dX11_counted_54 (by decide) ?_
        cases Option.some.inj hf
        exact ab_retI dX11_counted_58 (Or.inl rfl) (Nat.le_refl _) (Nat.le_refl _) ⟨rfl, rfl⟩
    rcases ab_cas hf with ⟨s10, hf⟩ | ⟨s10, hf⟩
    · refine ab_tswK (tgt := 59) (off := 52) dX11_counted_7 s10 (by decide) (by decide) (by decide +kernel) (by decide) ?_
      refine ab_aload_n (x := _) (pc2 := 60) dX11_counted_59 rfl rfl ?_
      refine ab_getI (pc2 := 63) hq1 (T_i1 q1 hq1) fa_X11_90 (by decide) dX11_counted_60 rfl ?_
      refine ab_if_eq (tgt := 70) (pc2 := 66) dX11_counted_63 (by decide) rfl hf (fun c11 hf => ?_) (fun c11 hf => ?_)
      · refine ab_iconst (pc2 := 71) (v := 0) dX11_counted_70 rfl ab_k_iconst_0 ?_
        cases Option.some.inj hf
        exact ab_retI dX11_counted_71 (Or.inl rfl) (Nat.le_refl _) (Nat.le_refl _) ⟨rfl, rfl⟩
      · refine ab_iconst (pc2 := 67) (v := 1) dX11_counted_66 rfl ab_k_iconst_1 ?_
        refine ab_goto (tgt := 71) dX11_counted_67 (by decide) ?_
        cases Option.some.inj hf
        exact ab_retI dX11_counted_71 (Or.inl rfl) (Nat.le_refl _) (Nat.le_refl _) ⟨rfl, rfl⟩
    rcases ab_cas hf with ⟨s12, hf⟩ | ⟨s12, hf⟩
    · refine ab_tswK (tgt := 72) (off := 65) dX11_counted_7 s12 (by decide) (by decide) (by decide +kernel) (by decide) ?_
      refine ab_aload_n (x := _) (pc2 := 73) dX11_counted_72 rfl rfl ?_
      refine ab_getI (pc2 := 76) hq1 (T_i1 q1 hq1) fa_X11_66 (by decide) dX11_counted_73 rfl ?_
      refine ab_bipush (pc2 := 78) (v := 6) dX11_counted_76 rfl ab_k_bipush_6 ?_
      refine ab_icmp_ne (tgt := 85) (pc2 := 81) dX11_counted_78 (by decide) rfl hf (fun c13 hf => ?_) (fun c13 hf => ?_)
      · refine ab_iconst (pc2 := 86) (v := 0) dX11_counted_85 rfl ab_k_iconst_0 ?_
        cases Option.some.inj hf
        exact ab_retI dX11_counted_86 (Or.inl rfl) (Nat.le_refl _) (Nat.le_refl _) ⟨rfl, rfl⟩
      · refine ab_iconst (pc2 := 82) (v := 1) dX11_counted_81 rfl ab_k_iconst_1 ?_
        refine ab_goto (tgt := 86) dX11_counted_82 (by decide) ?_
        cases Option.some.inj hf
        exact ab_retI dX11_counted_86 (Or.inl rfl) (Nat.le_refl _) (Nat.le_refl _) ⟨rfl, rfl⟩
    have s2n := lv_neT s2 (by decide : (2 : Int32).toInt = 2)
    have s10n := lv_neT s10 (by decide : (3 : Int32).toInt = 3)
    have s12n := lv_neT s12 (by decide : (4 : Int32).toInt = 4)
    refine ab_tswOut (tgt := 87) dX11_counted_7 (by omega) (by decide) ?_
    refine ab_aload_n (x := _) (pc2 := 88) dX11_counted_87 rfl rfl ?_
    refine ab_getI (pc2 := 91) hq1 (T_i1 q1 hq1) fa_X11_78 (by decide) dX11_counted_88 rfl ?_
    cases Option.some.inj hf
    exact ab_retI dX11_counted_91 (Or.inl rfl) (Nat.le_refl _) (Nat.le_refl _) ⟨rfl, rfl⟩
set_option maxHeartbeats 4000000 in
set_option maxRecDepth 100000 in
theorem m_X11_counted {d : Nat} {t0 : Nat} {i1 : Option Nat} {i2 : Int32} {h : ab_HP} {r : Int32} (ht0 : (ab_shp t0).1 = 0) (T_i1 : ∀ z, i1 = some z → (ab_shp z).1 = 4) (hf : f_X11_counted t0 i1 i2 h = some r) : ab_MET mX11_counted (d + 2) 0 0 [va_rf (some t0), va_rf i1, .int i2] h (ab_Pi r h) := ab_met (by decide +kernel) (by decide +kernel) (by simp [ab_lo, ab_rf1, ab_cI, ab_cJ]) (by simp [ab_lo0, ab_lo, ab_rf1, ab_cI, ab_cJ, List.replicate]) (x_X11_counted ht0 T_i1 hf)
set_option maxHeartbeats 4000000 in
set_option maxRecDepth 100000 in
theorem x_X11_count_l43 {d : Nat} {t0 : Nat} {r : Int32} (ht0 : (ab_shp t0).1 = 0) : ∀ (n : Nat) (i1 : Int32) (i2 : Int32) (i3 : Int32) (h : ab_HP), f_X11_count_l43 t0 n i1 i2 i3 h = some r → ab_T mX11_count (d + 3) 0 0 0 0 43 [some (va_rf (some t0)), some (.int i1), some (.int i2), some (.int i3)] [] h (ab_Pi r h) := by
  intro n
  induction n with
  | zero =>
    intro i1 i2 i3 h hf
    rw [f_X11_count_l43] at hf
    cases hf
  | succ n ih =>
    intro i1 i2 i3 h hf
    rw [f_X11_count_l43] at hf
    refine ab_iload_n (pc2 := 44) dX11_count_43 rfl rfl ?_
    refine ab_aload_n (x := _) (pc2 := 45) dX11_count_44 rfl rfl ?_
    refine ab_getR (pc2 := 48) rfl ht0 fa_X11_10 dX11_count_45 rfl (fun T10 => ?_)
    obtain ⟨q11, hq11, hf⟩ := ab_bind hf
    refine ab_getI (pc2 := 51) hq11 (T10 q11 hq11) fa_X11_207 (by decide) dX11_count_48 rfl ?_
    refine ab_icmp_ge (tgt := 76) (pc2 := 54) dX11_count_51 (by decide) rfl hf (fun c12 hf => ?_) (fun c12 hf => ?_)
    · refine ab_iload_n (pc2 := 77) dX11_count_76 rfl rfl ?_
      cases Option.some.inj hf
      exact ab_retI dX11_count_77 (Or.inl rfl) (Nat.le_refl _) (Nat.le_refl _) ⟨rfl, rfl⟩
    · refine ab_iload_n (pc2 := 55) dX11_count_54 rfl rfl ?_
      refine ab_aload_n (x := _) (pc2 := 56) dX11_count_55 rfl rfl ?_
      refine ab_aload_n (x := _) (pc2 := 57) dX11_count_56 rfl rfl ?_
      refine ab_getR (pc2 := 60) rfl ht0 fa_X11_10 dX11_count_57 rfl (fun T13 => ?_)
      refine ab_iload_n (pc2 := 61) dX11_count_60 rfl rfl ?_
      obtain ⟨q14, hq14, hf⟩ := ab_bind hf
      obtain ⟨w15, ew15, hf⟩ := ab_bind hf
      refine ab_callV (pc2 := 64) (st := [_, _]) hq14 (T13 q14 hq14) (by decide) (m_X9_deedAt (d := (d + 2)) (T13 q14 hq14) ew15) mf_X9_deedAt tw_127 tw_18 ts_X9_deedAt (Or.inl (by decide +kernel)) dX11_count_61 rfl (by omega) (Nat.le_refl _) (Nat.le_refl _) rfl (Nat.le_of_ble_eq_true rfl) (ab_kPr fun T16 => ?_)
      refine ab_iload_n (pc2 := 65) dX11_count_64 rfl rfl ?_
      obtain ⟨w17, ew17, hf⟩ := ab_bind hf
      refine ab_callV (pc2 := 68) (st := [_]) rfl ht0 (by decide) (m_X11_counted (d := (d + 0)) ht0 T16 ew17) mf_X11_counted tw_326 tw_325 ts_X11_counted (Or.inl (by decide +kernel)) dX11_count_65 rfl (by omega) (Nat.le_refl _) (Nat.le_refl _) rfl (Nat.le_of_ble_eq_true rfl) (ab_kPi ?_)
      refine ab_iadd (pc2 := 69) dX11_count_68 rfl ?_
      refine ab_istore_n (pc2 := 70) (lo2 := [some (va_rf _), some (.int _), some (.int _), some (.int _)]) dX11_count_69 rfl (by decide) rfl ?_
      refine ab_iinc (pc2 := 73) (v := _ + 1) (lo2 := [some (va_rf _), some (.int _), some (.int _), some (.int _)]) dX11_count_70 rfl rfl rfl (by decide) rfl ?_
      refine ab_goto (tgt := 43) dX11_count_73 (by decide) ?_
      exact ab_weak (ih _ _ _ _ hf) (ab_leS (ab_leS (ab_leS (ab_leS ab_le0))))
set_option maxHeartbeats 4000000 in
set_option maxRecDepth 100000 in
theorem x_X11_count {d : Nat} {t0 : Nat} {i1 : Int32} {h : ab_HP} {r : Int32} (ht0 : (ab_shp t0).1 = 0) (hf : f_X11_count t0 i1 h = some r) : ab_T mX11_count (d + 3) 0 0 0 0 0 [some (va_rf (some t0)), some (.int i1), none, none] [] h (ab_Pi r h) := by
  unfold f_X11_count at hf
  refine ab_iload_n (pc2 := 1) dX11_count_0 rfl rfl ?_
  refine ab_if_ne (tgt := 12) (pc2 := 4) dX11_count_1 (by decide) rfl hf (fun c1 hf => ?_) (fun c1 hf => ?_)
  · refine ab_iload_n (pc2 := 13) dX11_count_12 rfl rfl ?_
    refine ab_iconst (pc2 := 14) (v := 1) dX11_count_13 rfl ab_k_iconst_1 ?_
    refine ab_icmp_ne (tgt := 28) (pc2 := 17) dX11_count_14 (by decide) rfl hf (fun c2 hf => ?_) (fun c2 hf => ?_)
    · refine ab_iload_n (pc2 := 29) dX11_count_28 rfl rfl ?_
      refine ab_if_lt (tgt := 37) (pc2 := 32) dX11_count_29 (by decide) rfl hf (fun c3 hf => ?_) (fun c3 hf => ?_)
      · refine ab_iconst (pc2 := 38) (v := (-1)) dX11_count_37 rfl ab_k_iconst_m1 ?_
        cases Option.some.inj hf
        exact ab_retI dX11_count_38 (Or.inl rfl) (Nat.le_refl _) (Nat.le_refl _) ⟨rfl, rfl⟩
      · refine ab_iload_n (pc2 := 33) dX11_count_32 rfl rfl ?_
        refine ab_iconst (pc2 := 34) (v := 5) dX11_count_33 rfl ab_k_iconst_5 ?_
        refine ab_icmp_le (tgt := 39) (pc2 := 37) dX11_count_34 (by decide) rfl hf (fun c4 hf => ?_) (fun c4 hf => ?_)
        · refine ab_iconst (pc2 := 40) (v := 0) dX11_count_39 rfl ab_k_iconst_0 ?_
          refine ab_istore_n (pc2 := 41) (lo2 := [some (va_rf _), some (.int _), some (.int _), none]) dX11_count_40 rfl (by decide) rfl ?_
          refine ab_iconst (pc2 := 42) (v := 0) dX11_count_41 rfl ab_k_iconst_0 ?_
          refine ab_istore_n (pc2 := 43) (lo2 := [some (va_rf _), some (.int _), some (.int _), some (.int _)]) dX11_count_42 rfl (by decide) rfl ?_
          exact ab_weak (x_X11_count_l43 ht0 _ _ _ _ _ hf) (ab_leS (ab_leS (ab_leS (ab_leS ab_le0))))
        · refine ab_iconst (pc2 := 38) (v := (-1)) dX11_count_37 rfl ab_k_iconst_m1 ?_
          cases Option.some.inj hf
          exact ab_retI dX11_count_38 (Or.inl rfl) (Nat.le_refl _) (Nat.le_refl _) ⟨rfl, rfl⟩
    · refine ab_aload_n (x := _) (pc2 := 18) dX11_count_17 rfl rfl ?_
      refine ab_getR (pc2 := 21) rfl ht0 fa_X11_10 dX11_count_18 rfl (fun T5 => ?_)
      obtain ⟨q6, hq6, hf⟩ := ab_bind hf
      refine ab_getI (pc2 := 24) hq6 (T5 q6 hq6) fa_X11_94 (by decide) dX11_count_21 rfl ?_
      obtain ⟨w7, ew7, hf⟩ := ab_bind hf
      refine ab_callS (pc2 := 27) (st := []) (m_J6_bitCount_0f7a4 (d := (d + 2)) ew7) mf_J6_bitCount_0f7a4 tw_202 tw_203 dX11_count_24 rfl (by omega) (Nat.le_refl _) (Nat.le_refl _) rfl (Nat.le_of_ble_eq_true rfl) (ab_kPi ?_)
      cases Option.some.inj hf
      exact ab_retI dX11_count_27 (Or.inl rfl) (Nat.le_refl _) (Nat.le_refl _) ⟨rfl, rfl⟩
  · refine ab_aload_n (x := _) (pc2 := 5) dX11_count_4 rfl rfl ?_
    refine ab_getR (pc2 := 8) rfl ht0 fa_X11_10 dX11_count_5 rfl (fun T8 => ?_)
    obtain ⟨q9, hq9, hf⟩ := ab_bind hf
    refine ab_getI (pc2 := 11) hq9 (T8 q9 hq9) fa_X11_207 (by decide) dX11_count_8 rfl ?_
    cases Option.some.inj hf
    exact ab_retI dX11_count_11 (Or.inl rfl) (Nat.le_refl _) (Nat.le_refl _) ⟨rfl, rfl⟩
set_option maxHeartbeats 4000000 in
set_option maxRecDepth 100000 in
theorem m_X11_count {d : Nat} {t0 : Nat} {i1 : Int32} {h : ab_HP} {r : Int32} (ht0 : (ab_shp t0).1 = 0) (hf : f_X11_count t0 i1 h = some r) : ab_MET mX11_count (d + 3) 0 0 [va_rf (some t0), .int i1] h (ab_Pi r h) := ab_met (by decide +kernel) (by decide +kernel) (Nat.le_of_ble_eq_true rfl) rfl (x_X11_count ht0 hf)
set_option maxHeartbeats 4000000 in
set_option maxRecDepth 100000 in
theorem x_X11_keep_b54 {d : Nat} {t0 : Nat} {i4 : Option Nat} {i5 : Option Nat} {h : ab_HP} {r : (Int32 × ab_HP)} (ht0 : (ab_shp t0).1 = 0) (T_i4 : ∀ z, i4 = some z → (ab_shp z).1 = 3) (T_i5 : ∀ z, i5 = some z → (ab_shp z).1 = 4) (hf : f_X11_keep_b54 t0 i4 i5 h = some r) : ab_T mX11_keep (d + 1) 0 0 0 0 54 [some (va_rf (some t0)), none, none, none, some (va_rf i4), some (va_rf i5)] [] h (ab_Pi r.1 r.2) := by
  unfold f_X11_keep_b54 at hf
  refine ab_aload (x := _) (pc2 := 56) dX11_keep_54 rfl rfl ?_
  refine ab_aload (x := _) (pc2 := 58) dX11_keep_56 rfl rfl ?_
  obtain ⟨q15, hq15, hf⟩ := ab_bind hf
  obtain ⟨w16, ew16, hf⟩ := ab_bind hf
  refine ab_callV (pc2 := 61) (st := []) hq15 (T_i4 q15 hq15) (by decide) (m_X6_hold (d := (d + 0)) (T_i4 q15 hq15) T_i5 ew16) mf_X6_hold tw_329 tw_328 ts_X6_hold (Or.inl (by decide +kernel)) dX11_keep_58 rfl (by omega) (Nat.le_refl _) (Nat.le_refl _) rfl (Nat.le_of_ble_eq_true rfl) (ab_kPv ?_)
  refine ab_iconst (pc2 := 62) (v := 0) dX11_keep_61 rfl ab_k_iconst_0 ?_
  cases Option.some.inj hf
  exact ab_retI dX11_keep_62 (Or.inl rfl) (Nat.le_refl _) (Nat.le_refl _) ⟨rfl, rfl⟩
set_option maxHeartbeats 4000000 in
set_option maxRecDepth 100000 in
theorem x_X11_keep {d : Nat} {t0 : Nat} {i1 : Int32} {i2 : Int32} {i3 : Int32} {h : ab_HP} {r : (Int32 × ab_HP)} (ht0 : (ab_shp t0).1 = 0) (hf : f_X11_keep t0 i1 i2 i3 h = some r) : ab_T mX11_keep (d + 1) 0 0 0 0 0 [some (va_rf (some t0)), some (.int i1), some (.int i2), some (.int i3), none, none] [] h (ab_Pi r.1 r.2) := by
  unfold f_X11_keep at hf
  refine ab_aload_n (x := _) (pc2 := 1) dX11_keep_0 rfl rfl ?_
  refine ab_iload_n (pc2 := 2) dX11_keep_1 rfl rfl ?_
  obtain ⟨w1, ew1, hf⟩ := ab_bind hf
  refine ab_callV (pc2 := 5) (st := []) rfl ht0 (by decide) (m_X11_shelfAt (d := (d + 0)) ht0 ew1) mf_X11_shelfAt tw_93 tw_92 ts_X11_shelfAt (Or.inl (by decide +kernel)) dX11_keep_2 rfl (by omega) (Nat.le_refl _) (Nat.le_refl _) rfl (Nat.le_of_ble_eq_true rfl) (ab_kPr fun T2 => ?_)
  refine ab_astore (pc2 := 7) (lo2 := [some (va_rf _), some (.int _), some (.int _), some (.int _), some (va_rf _), none]) dX11_keep_5 rfl (by decide) rfl ?_
  refine ab_aload (x := _) (pc2 := 9) dX11_keep_7 rfl rfl ?_
  refine ab_nul (tgt := 21) (pc2 := 12) dX11_keep_9 (by decide) rfl hf (fun hq3 hf => ?_) (fun q3 hq3 hf => ?_)
  · refine ab_iconst (pc2 := 22) (v := (-1)) dX11_keep_21 rfl ab_k_iconst_m1 ?_
    cases Option.some.inj hf
    exact ab_retI dX11_keep_22 (Or.inl rfl) (Nat.le_refl _) (Nat.le_refl _) ⟨rfl, rfl⟩
  · refine ab_iload_n (pc2 := 13) dX11_keep_12 rfl rfl ?_
    refine ab_if_lt (tgt := 21) (pc2 := 16) dX11_keep_13 (by decide) rfl hf (fun c4 hf => ?_) (fun c4 hf => ?_)
    · refine ab_iconst (pc2 := 22) (v := (-1)) dX11_keep_21 rfl ab_k_iconst_m1 ?_
      cases Option.some.inj hf
      exact ab_retI dX11_keep_22 (Or.inl rfl) (Nat.le_refl _) (Nat.le_refl _) ⟨rfl, rfl⟩
    · refine ab_iload_n (pc2 := 17) dX11_keep_16 rfl rfl ?_
      refine ab_iconst (pc2 := 18) (v := 1) dX11_keep_17 rfl ab_k_iconst_1 ?_
      refine ab_icmp_le (tgt := 23) (pc2 := 21) dX11_keep_18 (by decide) rfl hf (fun c5 hf => ?_) (fun c5 hf => ?_)
      · refine ab_iload_n (pc2 := 24) dX11_keep_23 rfl rfl ?_
        refine ab_iconst (pc2 := 25) (v := 1) dX11_keep_24 rfl ab_k_iconst_1 ?_
        refine ab_icmp_ne (tgt := 39) (pc2 := 28) dX11_keep_25 (by decide) rfl hf (fun c6 hf => ?_) (fun c6 hf => ?_)
        · refine ab_null (pc2 := 40) dX11_keep_39 rfl ?_
          refine ab_astore (pc2 := 42) (lo2 := [some (va_rf _), some (.int _), some (.int _), some (.int _), some (va_rf _), some (va_rf _)]) dX11_keep_40 rfl (by decide) (ab_st1_rf (j := 4) rfl rfl) ?_
          refine ab_iload_n (pc2 := 43) dX11_keep_42 rfl rfl ?_
          refine ab_iconst (pc2 := 44) (v := 1) dX11_keep_43 rfl ab_k_iconst_1 ?_
          refine ab_icmp_ne (tgt := 54) (pc2 := 47) dX11_keep_44 (by decide) rfl hf (fun c7 hf => ?_) (fun c7 hf => ?_)
          · exact ab_weak (x_X11_keep_b54 ht0 T2 (fun z hz => by cases hz) hf) (ab_leS (ab_leN (ab_leN (ab_leN (ab_leS (ab_leS ab_le0))))))
          · refine ab_aload (x := _) (pc2 := 49) dX11_keep_47 rfl rfl ?_
            refine ab_nnul (tgt := 54) (pc2 := 52) dX11_keep_49 (by decide) rfl hf (fun hq8 hf => ?_) (fun q8 hq8 hf => ?_)
            · refine ab_iconst (pc2 := 53) (v := (-1)) dX11_keep_52 rfl ab_k_iconst_m1 ?_
              cases Option.some.inj hf
              exact ab_retI dX11_keep_53 (Or.inl rfl) (Nat.le_refl _) (Nat.le_refl _) ⟨rfl, rfl⟩
            · exact ab_weak (x_X11_keep_b54 ht0 T2 (fun z hz => by cases hz) hf) (ab_leS (ab_leN (ab_leN (ab_leN (ab_leS (ab_leS ab_le0))))))
        · refine ab_aload_n (x := _) (pc2 := 29) dX11_keep_28 rfl rfl ?_
          refine ab_getR (pc2 := 32) rfl ht0 fa_X11_10 dX11_keep_29 rfl (fun T9 => ?_)
          refine ab_iload_n (pc2 := 33) dX11_keep_32 rfl rfl ?_
          obtain ⟨q10, hq10, hf⟩ := ab_bind hf
          obtain ⟨w11, ew11, hf⟩ := ab_bind hf
          refine ab_callV (pc2 := 36) (st := []) hq10 (T9 q10 hq10) (by decide) (m_X9_deedAt (d := (d + 0)) (T9 q10 hq10) ew11) mf_X9_deedAt tw_127 tw_18 ts_X9_deedAt (Or.inl (by decide +kernel)) dX11_keep_33 rfl (by omega) (Nat.le_refl _) (Nat.le_refl _) rfl (Nat.le_of_ble_eq_true rfl) (ab_kPr fun T12 => ?_)
          refine ab_goto (tgt := 40) dX11_keep_36 (by decide) ?_
          refine ab_astore (pc2 := 42) (lo2 := [some (va_rf _), some (.int _), some (.int _), some (.int _), some (va_rf _), some (va_rf _)]) dX11_keep_40 rfl (by decide) (ab_st1_rf (j := 4) rfl rfl) ?_
          refine ab_iload_n (pc2 := 43) dX11_keep_42 rfl rfl ?_
          refine ab_iconst (pc2 := 44) (v := 1) dX11_keep_43 rfl ab_k_iconst_1 ?_
          refine ab_icmp_ne (tgt := 54) (pc2 := 47) dX11_keep_44 (by decide) rfl hf (fun c13 hf => ?_) (fun c13 hf => ?_)
          · exact ab_weak (x_X11_keep_b54 ht0 T2 T12 hf) (ab_leS (ab_leN (ab_leN (ab_leN (ab_leS (ab_leS ab_le0))))))
          · refine ab_aload (x := _) (pc2 := 49) dX11_keep_47 rfl rfl ?_
            refine ab_nnul (tgt := 54) (pc2 := 52) dX11_keep_49 (by decide) rfl hf (fun hq14 hf => ?_) (fun q14 hq14 hf => ?_)
            · refine ab_iconst (pc2 := 53) (v := (-1)) dX11_keep_52 rfl ab_k_iconst_m1 ?_
              cases Option.some.inj hf
              exact ab_retI dX11_keep_53 (Or.inl rfl) (Nat.le_refl _) (Nat.le_refl _) ⟨rfl, rfl⟩
            · exact ab_weak (x_X11_keep_b54 ht0 T2 T12 hf) (ab_leS (ab_leN (ab_leN (ab_leN (ab_leS (ab_leS ab_le0))))))
      · refine ab_iconst (pc2 := 22) (v := (-1)) dX11_keep_21 rfl ab_k_iconst_m1 ?_
        cases Option.some.inj hf
        exact ab_retI dX11_keep_22 (Or.inl rfl) (Nat.le_refl _) (Nat.le_refl _) ⟨rfl, rfl⟩
set_option maxHeartbeats 4000000 in
set_option maxRecDepth 100000 in
theorem m_X11_keep {d : Nat} {t0 : Nat} {i1 : Int32} {i2 : Int32} {i3 : Int32} {h : ab_HP} {r : (Int32 × ab_HP)} (ht0 : (ab_shp t0).1 = 0) (hf : f_X11_keep t0 i1 i2 i3 h = some r) : ab_MET mX11_keep (d + 1) 0 0 [va_rf (some t0), .int i1, .int i2, .int i3] h (ab_Pi r.1 r.2) := ab_met (by decide +kernel) (by decide +kernel) (Nat.le_of_ble_eq_true rfl) rfl (x_X11_keep ht0 hf)
set_option maxHeartbeats 4000000 in
set_option maxRecDepth 100000 in
theorem x_X11_row {d : Nat} {t0 : Nat} {i1 : Int32} {i2 : Int32} {i3 : Int32} {h : ab_HP} {r : (Int32 × ab_HP)} (ht0 : (ab_shp t0).1 = 0) (hf : f_X11_row t0 i1 i2 i3 h = some r) : ab_T mX11_row (d + 1) 0 0 0 0 0 [some (va_rf (some t0)), some (.int i1), some (.int i2), some (.int i3), none] [] h (ab_Pi r.1 r.2) := by
  unfold f_X11_row at hf
  refine ab_aload_n (x := _) (pc2 := 1) dX11_row_0 rfl rfl ?_
  refine ab_iload_n (pc2 := 2) dX11_row_1 rfl rfl ?_
  obtain ⟨w1, ew1, hf⟩ := ab_bind hf
  refine ab_callV (pc2 := 5) (st := []) rfl ht0 (by decide) (m_X11_shelfAt (d := (d + 0)) ht0 ew1) mf_X11_shelfAt tw_93 tw_92 ts_X11_shelfAt (Or.inl (by decide +kernel)) dX11_row_2 rfl (by omega) (Nat.le_refl _) (Nat.le_refl _) rfl (Nat.le_of_ble_eq_true rfl) (ab_kPr fun T2 => ?_)
  refine ab_astore (pc2 := 7) (lo2 := [some (va_rf _), some (.int _), some (.int _), some (.int _), some (va_rf _)]) dX11_row_5 rfl (by decide) rfl ?_
  refine ab_aload (x := _) (pc2 := 9) dX11_row_7 rfl rfl ?_
  refine ab_nul (tgt := 27) (pc2 := 12) dX11_row_9 (by decide) rfl hf (fun hq3 hf => ?_) (fun q3 hq3 hf => ?_)
  · refine ab_iconst (pc2 := 28) (v := (-1)) dX11_row_27 rfl ab_k_iconst_m1 ?_
    cases Option.some.inj hf
    exact ab_retI dX11_row_28 (Or.inl rfl) (Nat.le_refl _) (Nat.le_refl _) ⟨rfl, rfl⟩
  · refine ab_iload_n (pc2 := 13) dX11_row_12 rfl rfl ?_
    refine ab_if_lt (tgt := 27) (pc2 := 16) dX11_row_13 (by decide) rfl hf (fun c4 hf => ?_) (fun c4 hf => ?_)
    · refine ab_iconst (pc2 := 28) (v := (-1)) dX11_row_27 rfl ab_k_iconst_m1 ?_
      cases Option.some.inj hf
      exact ab_retI dX11_row_28 (Or.inl rfl) (Nat.le_refl _) (Nat.le_refl _) ⟨rfl, rfl⟩
    · refine ab_iload_n (pc2 := 17) dX11_row_16 rfl rfl ?_
      refine ab_iconst (pc2 := 18) (v := 2) dX11_row_17 rfl ab_k_iconst_2 ?_
      refine ab_icmp_gt (tgt := 27) (pc2 := 21) dX11_row_18 (by decide) rfl hf (fun c5 hf => ?_) (fun c5 hf => ?_)
      · refine ab_iconst (pc2 := 28) (v := (-1)) dX11_row_27 rfl ab_k_iconst_m1 ?_
        cases Option.some.inj hf
        exact ab_retI dX11_row_28 (Or.inl rfl) (Nat.le_refl _) (Nat.le_refl _) ⟨rfl, rfl⟩
      · refine ab_iload_n (pc2 := 22) dX11_row_21 rfl rfl ?_
        refine ab_bipush (pc2 := 24) (v := 100) dX11_row_22 rfl ab_k_bipush_100 ?_
        refine ab_icmp_le (tgt := 29) (pc2 := 27) dX11_row_24 (by decide) rfl hf (fun c6 hf => ?_) (fun c6 hf => ?_)
        · refine ab_iload_n (pc2 := 30) dX11_row_29 rfl rfl ?_
          refine ab_if_ge (tgt := 36) (pc2 := 33) dX11_row_30 (by decide) rfl hf (fun c7 hf => ?_) (fun c7 hf => ?_)
          · refine ab_aload (x := _) (pc2 := 38) dX11_row_36 rfl rfl ?_
            refine ab_iload_n (pc2 := 39) dX11_row_38 rfl rfl ?_
            refine ab_iload_n (pc2 := 40) dX11_row_39 rfl rfl ?_
            obtain ⟨w8, ew8, hf⟩ := ab_bind hf
            refine ab_callV (pc2 := 43) (st := []) hq3 (T2 q3 hq3) (by decide) (m_X6_holdRow (d := (d + 0)) (T2 q3 hq3) ew8) mf_X6_holdRow tw_333 tw_332 ts_X6_holdRow (Or.inl (by decide +kernel)) dX11_row_40 rfl (by omega) (Nat.le_refl _) (Nat.le_refl _) rfl (Nat.le_of_ble_eq_true rfl) (ab_kPv ?_)
            refine ab_iconst (pc2 := 44) (v := 0) dX11_row_43 rfl ab_k_iconst_0 ?_
            cases Option.some.inj hf
            exact ab_retI dX11_row_44 (Or.inl rfl) (Nat.le_refl _) (Nat.le_refl _) ⟨rfl, rfl⟩
          · refine ab_bipush (pc2 := 35) (v := (-14)) dX11_row_33 rfl ab_k_bipush_m14 ?_
            cases Option.some.inj hf
            exact ab_retI dX11_row_35 (Or.inl rfl) (Nat.le_refl _) (Nat.le_refl _) ⟨rfl, rfl⟩
        · refine ab_iconst (pc2 := 28) (v := (-1)) dX11_row_27 rfl ab_k_iconst_m1 ?_
          cases Option.some.inj hf
          exact ab_retI dX11_row_28 (Or.inl rfl) (Nat.le_refl _) (Nat.le_refl _) ⟨rfl, rfl⟩
set_option maxHeartbeats 4000000 in
set_option maxRecDepth 100000 in
theorem m_X11_row {d : Nat} {t0 : Nat} {i1 : Int32} {i2 : Int32} {i3 : Int32} {h : ab_HP} {r : (Int32 × ab_HP)} (ht0 : (ab_shp t0).1 = 0) (hf : f_X11_row t0 i1 i2 i3 h = some r) : ab_MET mX11_row (d + 1) 0 0 [va_rf (some t0), .int i1, .int i2, .int i3] h (ab_Pi r.1 r.2) := ab_met (by decide +kernel) (by decide +kernel) (Nat.le_of_ble_eq_true rfl) rfl (x_X11_row ht0 hf)
set_option maxHeartbeats 4000000 in
set_option maxRecDepth 100000 in
theorem x_X11_put {d : Nat} {t0 : Nat} {i1 : Int32} {i2 : Int32} {i3 : Int32} {h : ab_HP} {r : (Int32 × ab_HP)} (ht0 : (ab_shp t0).1 = 0) (hf : f_X11_put t0 i1 i2 i3 h = some r) : ab_T mX11_put (d + 2) 0 0 0 0 0 [some (va_rf (some t0)), some (.int i1), some (.int i2), some (.int i3), none, none] [] h (ab_Pi r.1 r.2) := by
  unfold f_X11_put at hf
  refine ab_aload_n (x := _) (pc2 := 1) dX11_put_0 rfl rfl ?_
  refine ab_iload_n (pc2 := 2) dX11_put_1 rfl rfl ?_
  obtain ⟨w1, ew1, hf⟩ := ab_bind hf
  refine ab_callV (pc2 := 5) (st := []) rfl ht0 (by decide) (m_X11_shelfAt (d := (d + 1)) ht0 ew1) mf_X11_shelfAt tw_93 tw_92 ts_X11_shelfAt (Or.inl (by decide +kernel)) dX11_put_2 rfl (by omega) (Nat.le_refl _) (Nat.le_refl _) rfl (Nat.le_of_ble_eq_true rfl) (ab_kPr fun T2 => ?_)
  refine ab_astore (pc2 := 7) (lo2 := [some (va_rf _), some (.int _), some (.int _), some (.int _), some (va_rf _), none]) dX11_put_5 rfl (by decide) rfl ?_
  refine ab_aload (x := _) (pc2 := 9) dX11_put_7 rfl rfl ?_
  refine ab_nnul (tgt := 14) (pc2 := 12) dX11_put_9 (by decide) rfl hf (fun hq3 hf => ?_) (fun q3 hq3 hf => ?_)
  · refine ab_iconst (pc2 := 13) (v := (-1)) dX11_put_12 rfl ab_k_iconst_m1 ?_
    cases Option.some.inj hf
    exact ab_retI dX11_put_13 (Or.inl rfl) (Nat.le_refl _) (Nat.le_refl _) ⟨rfl, rfl⟩
  · refine ab_aload (x := _) (pc2 := 16) dX11_put_14 rfl rfl ?_
    obtain ⟨w4, ew4, hf⟩ := ab_bind hf
    refine ab_callV (pc2 := 19) (st := []) hq3 (T2 q3 hq3) (by decide) (m_X6_rowRefusal (d := (d + 0)) (T2 q3 hq3) ew4) mf_X6_rowRefusal tw_279 tw_278 ts_X6_rowRefusal (Or.inl (by decide +kernel)) dX11_put_16 rfl (by omega) (Nat.le_refl _) (Nat.le_refl _) rfl (Nat.le_of_ble_eq_true rfl) (ab_kPi ?_)
    refine ab_istore (pc2 := 21) (lo2 := [some (va_rf _), some (.int _), some (.int _), some (.int _), some (va_rf _), some (.int _)]) dX11_put_19 rfl (by decide) (ab_st1_rf (j := 4) rfl rfl) ?_
    refine ab_iload (pc2 := 23) dX11_put_21 rfl rfl ?_
    refine ab_if_eq (tgt := 29) (pc2 := 26) dX11_put_23 (by decide) rfl hf (fun c5 hf => ?_) (fun c5 hf => ?_)
    · refine ab_aload (x := _) (pc2 := 31) dX11_put_29 rfl rfl ?_
      refine ab_iload_n (pc2 := 32) dX11_put_31 rfl rfl ?_
      refine ab_iload_n (pc2 := 33) dX11_put_32 rfl rfl ?_
      obtain ⟨w6, ew6, hf⟩ := ab_bind hf
      refine ab_callV (pc2 := 36) (st := []) hq3 (T2 q3 hq3) (by decide) (m_X6_write (d := (d + 0)) (T2 q3 hq3) ew6) mf_X6_write tw_335 tw_334 ts_X6_write (Or.inl (by decide +kernel)) dX11_put_33 rfl (by omega) (Nat.le_refl _) (Nat.le_refl _) rfl (Nat.le_of_ble_eq_true rfl) (ab_kPb fun z7 => ?_)
      refine ab_if_eq (tgt := 43) (pc2 := 39) dX11_put_36 (by decide) rfl hf (fun c8 hf => ?_) (fun c8 hf => ?_)
      · refine ab_bipush (pc2 := 45) (v := (-13)) dX11_put_43 rfl ab_k_bipush_m13 ?_
        cases Option.some.inj hf
        exact ab_retI dX11_put_45 (Or.inl rfl) (Nat.le_refl _) (Nat.le_refl _) ⟨rfl, rfl⟩
      · refine ab_iconst (pc2 := 40) (v := 0) dX11_put_39 rfl ab_k_iconst_0 ?_
        refine ab_goto (tgt := 45) dX11_put_40 (by decide) ?_
        cases Option.some.inj hf
        exact ab_retI dX11_put_45 (Or.inl rfl) (Nat.le_refl _) (Nat.le_refl _) ⟨rfl, rfl⟩
    · refine ab_iload (pc2 := 28) dX11_put_26 rfl rfl ?_
      cases Option.some.inj hf
      exact ab_retI dX11_put_28 (Or.inl rfl) (Nat.le_refl _) (Nat.le_refl _) ⟨rfl, rfl⟩
set_option maxHeartbeats 4000000 in
set_option maxRecDepth 100000 in
theorem m_X11_put {d : Nat} {t0 : Nat} {i1 : Int32} {i2 : Int32} {i3 : Int32} {h : ab_HP} {r : (Int32 × ab_HP)} (ht0 : (ab_shp t0).1 = 0) (hf : f_X11_put t0 i1 i2 i3 h = some r) : ab_MET mX11_put (d + 2) 0 0 [va_rf (some t0), .int i1, .int i2, .int i3] h (ab_Pi r.1 r.2) := ab_met (by decide +kernel) (by decide +kernel) (Nat.le_of_ble_eq_true rfl) rfl (x_X11_put ht0 hf)
set_option maxHeartbeats 4000000 in
set_option maxRecDepth 100000 in
theorem x_X11_copy {d : Nat} {t0 : Nat} {i1 : Int32} {i2 : Int32} {i3 : Int32} {i4 : Int32} {i5 : Int32} {h : ab_HP} {r : (Int32 × ab_HP)} (ht0 : (ab_shp t0).1 = 0) (hf : f_X11_copy t0 i1 i2 i3 i4 i5 h = some r) : ab_T mX11_copy (d + 2) 0 0 0 0 0 [some (va_rf (some t0)), some (.int i1), some (.int i2), some (.int i3), some (.int i4), some (.int i5), none, none] [] h (ab_Pi r.1 r.2) := by
  unfold f_X11_copy at hf
  refine ab_aload_n (x := _) (pc2 := 1) dX11_copy_0 rfl rfl ?_
  refine ab_iload_n (pc2 := 2) dX11_copy_1 rfl rfl ?_
  obtain ⟨w1, ew1, hf⟩ := ab_bind hf
  refine ab_callV (pc2 := 5) (st := []) rfl ht0 (by decide) (m_X11_shelfAt (d := (d + 1)) ht0 ew1) mf_X11_shelfAt tw_93 tw_92 ts_X11_shelfAt (Or.inl (by decide +kernel)) dX11_copy_2 rfl (by omega) (Nat.le_refl _) (Nat.le_refl _) rfl (Nat.le_of_ble_eq_true rfl) (ab_kPr fun T2 => ?_)
  refine ab_astore (pc2 := 7) (lo2 := [some (va_rf _), some (.int _), some (.int _), some (.int _), some (.int _), some (.int _), some (va_rf _), none]) dX11_copy_5 rfl (by decide) rfl ?_
  refine ab_aload_n (x := _) (pc2 := 8) dX11_copy_7 rfl rfl ?_
  refine ab_iload_n (pc2 := 9) dX11_copy_8 rfl rfl ?_
  obtain ⟨w3, ew3, hf⟩ := ab_bind hf
  refine ab_callV (pc2 := 12) (st := []) rfl ht0 (by decide) (m_X11_shelfAt (d := (d + 1)) ht0 ew3) mf_X11_shelfAt tw_93 tw_92 ts_X11_shelfAt (Or.inl (by decide +kernel)) dX11_copy_9 rfl (by omega) (Nat.le_refl _) (Nat.le_refl _) rfl (Nat.le_of_ble_eq_true rfl) (ab_kPr fun T4 => ?_)
  refine ab_astore (pc2 := 14) (lo2 := [some (va_rf _), some (.int _), some (.int _), some (.int _), some (.int _), some (.int _), some (va_rf _), some (va_rf _)]) dX11_copy_12 rfl (by decide) (ab_st1_rf (j := 6) rfl rfl) ?_
  refine ab_aload (x := _) (pc2 := 16) dX11_copy_14 rfl rfl ?_
  refine ab_nul (tgt := 24) (pc2 := 19) dX11_copy_16 (by decide) rfl hf (fun hq5 hf => ?_) (fun q5 hq5 hf => ?_)
  · refine ab_iconst (pc2 := 25) (v := (-1)) dX11_copy_24 rfl ab_k_iconst_m1 ?_
    cases Option.some.inj hf
    exact ab_retI dX11_copy_25 (Or.inl rfl) (Nat.le_refl _) (Nat.le_refl _) ⟨rfl, rfl⟩
  · refine ab_aload (x := _) (pc2 := 21) dX11_copy_19 rfl rfl ?_
    refine ab_nnul (tgt := 26) (pc2 := 24) dX11_copy_21 (by decide) rfl hf (fun hq6 hf => ?_) (fun q6 hq6 hf => ?_)
    · refine ab_iconst (pc2 := 25) (v := (-1)) dX11_copy_24 rfl ab_k_iconst_m1 ?_
      cases Option.some.inj hf
      exact ab_retI dX11_copy_25 (Or.inl rfl) (Nat.le_refl _) (Nat.le_refl _) ⟨rfl, rfl⟩
    · refine ab_aload (x := _) (pc2 := 28) dX11_copy_26 rfl rfl ?_
      obtain ⟨w7, ew7, hf⟩ := ab_bind hf
      refine ab_callV (pc2 := 31) (st := []) hq5 (T2 q5 hq5) (by decide) (m_X6_isEmpty (d := (d + 1)) (T2 q5 hq5) ew7) mf_X6_isEmpty tw_336 tw_16 ts_X6_isEmpty (Or.inl (by decide +kernel)) dX11_copy_28 rfl (by omega) (Nat.le_refl _) (Nat.le_refl _) rfl (Nat.le_of_ble_eq_true rfl) (ab_kPb fun z8 => ?_)
      refine ab_if_ne (tgt := 42) (pc2 := 34) dX11_copy_31 (by decide) rfl hf (fun c9 hf => ?_) (fun c9 hf => ?_)
      · refine ab_bipush (pc2 := 44) (v := (-11)) dX11_copy_42 rfl ab_k_bipush_m11 ?_
        cases Option.some.inj hf
        exact ab_retI dX11_copy_44 (Or.inl rfl) (Nat.le_refl _) (Nat.le_refl _) ⟨rfl, rfl⟩
      · refine ab_aload (x := _) (pc2 := 36) dX11_copy_34 rfl rfl ?_
        obtain ⟨w10, ew10, hf⟩ := ab_bind hf
        refine ab_callV (pc2 := 39) (st := []) hq6 (T4 q6 hq6) (by decide) (m_X6_isEmpty (d := (d + 1)) (T4 q6 hq6) ew10) mf_X6_isEmpty tw_336 tw_16 ts_X6_isEmpty (Or.inl (by decide +kernel)) dX11_copy_36 rfl (by omega) (Nat.le_refl _) (Nat.le_refl _) rfl (Nat.le_of_ble_eq_true rfl) (ab_kPb fun z11 => ?_)
        refine ab_if_eq (tgt := 45) (pc2 := 42) dX11_copy_39 (by decide) rfl hf (fun c12 hf => ?_) (fun c12 hf => ?_)
        · refine ab_aload (x := _) (pc2 := 47) dX11_copy_45 rfl rfl ?_
          obtain ⟨w13, ew13, hf⟩ := ab_bind hf
          refine ab_callV (pc2 := 50) (st := []) hq5 (T2 q5 hq5) (by decide) (m_X6_rowRefusal (d := (d + 0)) (T2 q5 hq5) ew13) mf_X6_rowRefusal tw_279 tw_278 ts_X6_rowRefusal (Or.inl (by decide +kernel)) dX11_copy_47 rfl (by omega) (Nat.le_refl _) (Nat.le_refl _) rfl (Nat.le_of_ble_eq_true rfl) (ab_kPi ?_)
          refine ab_if_ne (tgt := 74) (pc2 := 53) dX11_copy_50 (by decide) rfl hf (fun c14 hf => ?_) (fun c14 hf => ?_)
          · refine ab_bipush (pc2 := 76) (v := (-12)) dX11_copy_74 rfl ab_k_bipush_m12 ?_
            cases Option.some.inj hf
            exact ab_retI dX11_copy_76 (Or.inl rfl) (Nat.le_refl _) (Nat.le_refl _) ⟨rfl, rfl⟩
          · refine ab_aload (x := _) (pc2 := 55) dX11_copy_53 rfl rfl ?_
            obtain ⟨w15, ew15, hf⟩ := ab_bind hf
            refine ab_callV (pc2 := 58) (st := []) hq6 (T4 q6 hq6) (by decide) (m_X6_rowRefusal (d := (d + 0)) (T4 q6 hq6) ew15) mf_X6_rowRefusal tw_279 tw_278 ts_X6_rowRefusal (Or.inl (by decide +kernel)) dX11_copy_55 rfl (by omega) (Nat.le_refl _) (Nat.le_refl _) rfl (Nat.le_of_ble_eq_true rfl) (ab_kPi ?_)
            refine ab_if_ne (tgt := 74) (pc2 := 61) dX11_copy_58 (by decide) rfl hf (fun c16 hf => ?_) (fun c16 hf => ?_)
            · refine ab_bipush (pc2 := 76) (v := (-12)) dX11_copy_74 rfl ab_k_bipush_m12 ?_
              cases Option.some.inj hf
              exact ab_retI dX11_copy_76 (Or.inl rfl) (Nat.le_refl _) (Nat.le_refl _) ⟨rfl, rfl⟩
            · refine ab_aload (x := _) (pc2 := 63) dX11_copy_61 rfl rfl ?_
              refine ab_getI (pc2 := 66) hq5 (T2 q5 hq5) fa_X11_275 (by decide) dX11_copy_63 rfl ?_
              refine ab_aload (x := _) (pc2 := 68) dX11_copy_66 rfl rfl ?_
              refine ab_getI (pc2 := 71) hq6 (T4 q6 hq6) fa_X11_275 (by decide) dX11_copy_68 rfl ?_
              refine ab_icmp_eq (tgt := 77) (pc2 := 74) dX11_copy_71 (by decide) rfl hf (fun c17 hf => ?_) (fun c17 hf => ?_)
              · refine ab_aload (x := _) (pc2 := 79) dX11_copy_77 rfl rfl ?_
                refine ab_iload_n (pc2 := 80) dX11_copy_79 rfl rfl ?_
                refine ab_iload (pc2 := 82) dX11_copy_80 rfl rfl ?_
                obtain ⟨w18, ew18, hf⟩ := ab_bind hf
                refine ab_callV (pc2 := 85) (st := []) hq5 (T2 q5 hq5) (by decide) (m_X6_hasPlaces (d := (d + 1)) (T2 q5 hq5) ew18) mf_X6_hasPlaces tw_338 tw_337 ts_X6_hasPlaces (Or.inl (by decide +kernel)) dX11_copy_82 rfl (by omega) (Nat.le_refl _) (Nat.le_refl _) rfl (Nat.le_of_ble_eq_true rfl) (ab_kPb fun z19 => ?_)
                refine ab_if_eq (tgt := 100) (pc2 := 88) dX11_copy_85 (by decide) rfl hf (fun c20 hf => ?_) (fun c20 hf => ?_)
                · refine ab_bipush (pc2 := 102) (v := (-13)) dX11_copy_100 rfl ab_k_bipush_m13 ?_
                  cases Option.some.inj hf
                  exact ab_retI dX11_copy_102 (Or.inl rfl) (Nat.le_refl _) (Nat.le_refl _) ⟨rfl, rfl⟩
                · refine ab_aload (x := _) (pc2 := 90) dX11_copy_88 rfl rfl ?_
                  refine ab_iload (pc2 := 92) dX11_copy_90 rfl rfl ?_
                  refine ab_iload (pc2 := 94) dX11_copy_92 rfl rfl ?_
                  obtain ⟨w21, ew21, hf⟩ := ab_bind hf
                  refine ab_callV (pc2 := 97) (st := []) hq6 (T4 q6 hq6) (by decide) (m_X6_hasPlaces (d := (d + 1)) (T4 q6 hq6) ew21) mf_X6_hasPlaces tw_338 tw_337 ts_X6_hasPlaces (Or.inl (by decide +kernel)) dX11_copy_94 rfl (by omega) (Nat.le_refl _) (Nat.le_refl _) rfl (Nat.le_of_ble_eq_true rfl) (ab_kPb fun z22 => ?_)
                  refine ab_if_ne (tgt := 103) (pc2 := 100) dX11_copy_97 (by decide) rfl hf (fun c23 hf => ?_) (fun c23 hf => ?_)
                  · refine ab_aload (x := _) (pc2 := 105) dX11_copy_103 rfl rfl ?_
                    refine ab_getR (pc2 := 108) hq5 (T2 q5 hq5) fa_X11_281 dX11_copy_105 rfl (fun T24 => ?_)
                    refine ab_iload_n (pc2 := 109) dX11_copy_108 rfl rfl ?_
                    refine ab_aload (x := _) (pc2 := 111) dX11_copy_109 rfl rfl ?_
                    refine ab_getR (pc2 := 114) hq6 (T4 q6 hq6) fa_X11_281 dX11_copy_111 rfl (fun T25 => ?_)
                    refine ab_iload (pc2 := 116) dX11_copy_114 rfl rfl ?_
                    refine ab_iload (pc2 := 118) dX11_copy_116 rfl rfl ?_
                    obtain ⟨q26, hq26, hf⟩ := ab_bind hf
                    obtain ⟨q27, hq27, hf⟩ := ab_bind hf
                    obtain ⟨b28, hf⟩ := ab_guard hf
                    obtain ⟨b28a, b28b, b28c, b28d, b28e⟩ := ab_cpok_e b28
                    obtain ⟨h29, eh29, hf⟩ := ab_let_x hf
                    refine ab_acopy (pc2 := 121) hq27 hq26 (T24 q27 hq27) (T25 q26 hq26) b28a b28b b28c b28d b28e tw_339 tw_340 tw_341 tw_342 (by omega) (Nat.le_of_ble_eq_true rfl) dX11_copy_118 rfl ?_
                    refine ab_topH eh29 ?_
                    refine ab_iload (pc2 := 123) dX11_copy_121 rfl rfl ?_
                    cases Option.some.inj hf
                    exact ab_retI dX11_copy_123 (Or.inl rfl) (Nat.le_refl _) (Nat.le_refl _) ⟨rfl, rfl⟩
                  · refine ab_bipush (pc2 := 102) (v := (-13)) dX11_copy_100 rfl ab_k_bipush_m13 ?_
                    cases Option.some.inj hf
                    exact ab_retI dX11_copy_102 (Or.inl rfl) (Nat.le_refl _) (Nat.le_refl _) ⟨rfl, rfl⟩
              · refine ab_bipush (pc2 := 76) (v := (-12)) dX11_copy_74 rfl ab_k_bipush_m12 ?_
                cases Option.some.inj hf
                exact ab_retI dX11_copy_76 (Or.inl rfl) (Nat.le_refl _) (Nat.le_refl _) ⟨rfl, rfl⟩
        · refine ab_bipush (pc2 := 44) (v := (-11)) dX11_copy_42 rfl ab_k_bipush_m11 ?_
          cases Option.some.inj hf
          exact ab_retI dX11_copy_44 (Or.inl rfl) (Nat.le_refl _) (Nat.le_refl _) ⟨rfl, rfl⟩
set_option maxHeartbeats 4000000 in
set_option maxRecDepth 100000 in
theorem m_X11_copy {d : Nat} {t0 : Nat} {i1 : Int32} {i2 : Int32} {i3 : Int32} {i4 : Int32} {i5 : Int32} {h : ab_HP} {r : (Int32 × ab_HP)} (ht0 : (ab_shp t0).1 = 0) (hf : f_X11_copy t0 i1 i2 i3 i4 i5 h = some r) : ab_MET mX11_copy (d + 2) 0 0 [va_rf (some t0), .int i1, .int i2, .int i3, .int i4, .int i5] h (ab_Pi r.1 r.2) := ab_met (by decide +kernel) (by decide +kernel) (Nat.le_of_ble_eq_true rfl) rfl (x_X11_copy ht0 hf)
set_option maxHeartbeats 4000000 in
set_option maxRecDepth 100000 in
theorem x_X11_care {d : Nat} {t0 : Nat} {i1 : Int32} {h : ab_HP} {r : Int32} (ht0 : (ab_shp t0).1 = 0) (hf : f_X11_care t0 i1 h = some r) : ab_T mX11_care (d + 2) 0 0 0 0 0 [some (va_rf (some t0)), some (.int i1), none, none] [] h (ab_Pi r h) := by
  unfold f_X11_care at hf
  refine ab_aload_n (x := _) (pc2 := 1) dX11_care_0 rfl rfl ?_
  refine ab_iload_n (pc2 := 2) dX11_care_1 rfl rfl ?_
  obtain ⟨w1, ew1, hf⟩ := ab_bind hf
  refine ab_callV (pc2 := 5) (st := []) rfl ht0 (by decide) (m_X11_shelfAt (d := (d + 1)) ht0 ew1) mf_X11_shelfAt tw_93 tw_92 ts_X11_shelfAt (Or.inl (by decide +kernel)) dX11_care_2 rfl (by omega) (Nat.le_refl _) (Nat.le_refl _) rfl (Nat.le_of_ble_eq_true rfl) (ab_kPr fun T2 => ?_)
  refine ab_astore_n (pc2 := 6) (lo2 := [some (va_rf _), some (.int _), some (va_rf _), none]) dX11_care_5 rfl (by decide) rfl ?_
  refine ab_aload_n (x := _) (pc2 := 7) dX11_care_6 rfl rfl ?_
  refine ab_nnul (tgt := 12) (pc2 := 10) dX11_care_7 (by decide) rfl hf (fun hq3 hf => ?_) (fun q3 hq3 hf => ?_)
  · refine ab_iconst (pc2 := 11) (v := (-1)) dX11_care_10 rfl ab_k_iconst_m1 ?_
    cases Option.some.inj hf
    exact ab_retI dX11_care_11 (Or.inl rfl) (Nat.le_refl _) (Nat.le_refl _) ⟨rfl, rfl⟩
  · refine ab_aload_n (x := _) (pc2 := 13) dX11_care_12 rfl rfl ?_
    refine ab_getR (pc2 := 16) hq3 (T2 q3 hq3) fa_X11_290 dX11_care_13 rfl (fun T4 => ?_)
    refine ab_astore_n (pc2 := 17) (lo2 := [some (va_rf _), some (.int _), some (va_rf _), some (va_rf _)]) dX11_care_16 rfl (by decide) (ab_st1_rf (j := 2) rfl rfl) ?_
    refine ab_aload_n (x := _) (pc2 := 18) dX11_care_17 rfl rfl ?_
    refine ab_nnul (tgt := 28) (pc2 := 21) dX11_care_18 (by decide) rfl hf (fun hq5 hf => ?_) (fun q5 hq5 hf => ?_)
    · refine ab_aload_n (x := _) (pc2 := 22) dX11_care_21 rfl rfl ?_
      obtain ⟨w6, ew6, hf⟩ := ab_bind hf
      refine ab_callV (pc2 := 25) (st := []) hq3 (T2 q3 hq3) (by decide) (m_X6_deedRefusal (d := (d + 0)) (T2 q3 hq3) ew6) mf_X6_deedRefusal tw_344 tw_343 ts_X6_deedRefusal (Or.inl (by decide +kernel)) dX11_care_22 rfl (by omega) (Nat.le_refl _) (Nat.le_refl _) rfl (Nat.le_of_ble_eq_true rfl) (ab_kPi ?_)
      refine ab_goto (tgt := 32) dX11_care_25 (by decide) ?_
      cases Option.some.inj hf
      exact ab_retI dX11_care_32 (Or.inl rfl) (Nat.le_refl _) (Nat.le_refl _) ⟨rfl, rfl⟩
    · refine ab_aload_n (x := _) (pc2 := 29) dX11_care_28 rfl rfl ?_
      refine ab_getI (pc2 := 32) hq5 (T4 q5 hq5) fa_X11_297 (by decide) dX11_care_29 rfl ?_
      cases Option.some.inj hf
      exact ab_retI dX11_care_32 (Or.inl rfl) (Nat.le_refl _) (Nat.le_refl _) ⟨rfl, rfl⟩
set_option maxHeartbeats 4000000 in
set_option maxRecDepth 100000 in
theorem m_X11_care {d : Nat} {t0 : Nat} {i1 : Int32} {h : ab_HP} {r : Int32} (ht0 : (ab_shp t0).1 = 0) (hf : f_X11_care t0 i1 h = some r) : ab_MET mX11_care (d + 2) 0 0 [va_rf (some t0), .int i1] h (ab_Pi r h) := ab_met (by decide +kernel) (by decide +kernel) (Nat.le_of_ble_eq_true rfl) rfl (x_X11_care ht0 hf)
set_option maxHeartbeats 4000000 in
set_option maxRecDepth 100000 in
theorem x_X12_init {d : Nat} {t0 : Nat} {h : ab_HP} {r : ab_HP} (ht0 : (ab_shp t0).1 = 5) (hf : f_X12_init t0 h = some r) : ab_T mX12_init (d + 1) 17 1085 0 0 0 [some (va_rf (some t0))] [] h (ab_Pv r) := by
  unfold f_X12_init at hf
  refine ab_aload_n (x := _) (pc2 := 1) dX12_init_0 rfl rfl ?_
  refine ab_objInit (pc2 := 4) rfl tw_15 tw_4 tw_obj (by omega) (Nat.le_of_ble_eq_true rfl) dX12_init_1 rfl ?_
  refine ab_aload_n (x := _) (pc2 := 5) dX12_init_4 rfl rfl ?_
  refine ab_bipush (pc2 := 7) (v := 47) dX12_init_5 rfl ab_k_bipush_47 ?_
  obtain ⟨b1, hf⟩ := ab_guard hf
  obtain ⟨h2, eh2, hf⟩ := ab_let_x hf
  refine ab_newaI (pc2 := 9) tw_8 b1 (by decide) (by decide) (by decide) (by omega) (by omega) dX12_init_7 rfl ?_
  refine ab_topH eh2 ?_
  obtain ⟨h3, eh3, hf⟩ := ab_let_x hf
  refine ab_putR (pc2 := 12) rfl ht0 fa_X12_9 (ab_ty1 (congrArg Prod.fst b1)) (fun _ => rfl) dX12_init_9 rfl ?_
  refine ab_topH eh3 ?_
  refine ab_aload_n (x := _) (pc2 := 13) dX12_init_12 rfl rfl ?_
  refine ab_bipush (pc2 := 15) (v := 47) dX12_init_13 rfl ab_k_bipush_47 ?_
  obtain ⟨b4, hf⟩ := ab_guard hf
  obtain ⟨h5, eh5, hf⟩ := ab_let_x hf
  refine ab_newaI (pc2 := 17) tw_8 b4 (by decide) (by decide) (by decide) (by omega) (by omega) dX12_init_15 rfl ?_
  refine ab_topH eh5 ?_
  obtain ⟨h6, eh6, hf⟩ := ab_let_x hf
  refine ab_putR (pc2 := 20) rfl ht0 fa_X12_13 (ab_ty1 (congrArg Prod.fst b4)) (fun _ => rfl) dX12_init_17 rfl ?_
  refine ab_topH eh6 ?_
  refine ab_aload_n (x := _) (pc2 := 21) dX12_init_20 rfl rfl ?_
  refine ab_bipush (pc2 := 23) (v := 47) dX12_init_21 rfl ab_k_bipush_47 ?_
  obtain ⟨b7, hf⟩ := ab_guard hf
  obtain ⟨h8, eh8, hf⟩ := ab_let_x hf
  refine ab_newaI (pc2 := 25) tw_8 b7 (by decide) (by decide) (by decide) (by omega) (by omega) dX12_init_23 rfl ?_
  refine ab_topH eh8 ?_
  obtain ⟨h9, eh9, hf⟩ := ab_let_x hf
  refine ab_putR (pc2 := 28) rfl ht0 fa_X12_16 (ab_ty1 (congrArg Prod.fst b7)) (fun _ => rfl) dX12_init_25 rfl ?_
  refine ab_topH eh9 ?_
  refine ab_aload_n (x := _) (pc2 := 29) dX12_init_28 rfl rfl ?_
  refine ab_bipush (pc2 := 31) (v := 8) dX12_init_29 rfl ab_k_bipush_8 ?_
  obtain ⟨b10, hf⟩ := ab_guard hf
  obtain ⟨h11, eh11, hf⟩ := ab_let_x hf
  refine ab_newaI (pc2 := 33) tw_8 b10 (by decide) (by decide) (by decide) (by omega) (by omega) dX12_init_31 rfl ?_
  refine ab_topH eh11 ?_
  obtain ⟨h12, eh12, hf⟩ := ab_let_x hf
  refine ab_putR (pc2 := 36) rfl ht0 fa_X12_19 (ab_ty1 (congrArg Prod.fst b10)) (fun _ => rfl) dX12_init_33 rfl ?_
  refine ab_topH eh12 ?_
  refine ab_aload_n (x := _) (pc2 := 37) dX12_init_36 rfl rfl ?_
  refine ab_bipush (pc2 := 39) (v := 8) dX12_init_37 rfl ab_k_bipush_8 ?_
  obtain ⟨b13, hf⟩ := ab_guard hf
  obtain ⟨h14, eh14, hf⟩ := ab_let_x hf
  refine ab_newaI (pc2 := 41) tw_8 b13 (by decide) (by decide) (by decide) (by omega) (by omega) dX12_init_39 rfl ?_
  refine ab_topH eh14 ?_
  obtain ⟨h15, eh15, hf⟩ := ab_let_x hf
  refine ab_putR (pc2 := 44) rfl ht0 fa_X12_22 (ab_ty1 (congrArg Prod.fst b13)) (fun _ => rfl) dX12_init_41 rfl ?_
  refine ab_topH eh15 ?_
  refine ab_aload_n (x := _) (pc2 := 45) dX12_init_44 rfl rfl ?_
  refine ab_bipush (pc2 := 47) (v := 8) dX12_init_45 rfl ab_k_bipush_8 ?_
  obtain ⟨b16, hf⟩ := ab_guard hf
  obtain ⟨h17, eh17, hf⟩ := ab_let_x hf
  refine ab_newaI (pc2 := 49) tw_8 b16 (by decide) (by decide) (by decide) (by omega) (by omega) dX12_init_47 rfl ?_
  refine ab_topH eh17 ?_
  obtain ⟨h18, eh18, hf⟩ := ab_let_x hf
  refine ab_putR (pc2 := 52) rfl ht0 fa_X12_25 (ab_ty1 (congrArg Prod.fst b16)) (fun _ => rfl) dX12_init_49 rfl ?_
  refine ab_topH eh18 ?_
  refine ab_aload_n (x := _) (pc2 := 53) dX12_init_52 rfl rfl ?_
  refine ab_sipush (pc2 := 56) (v := 800) dX12_init_53 rfl ab_k_sipush_800 ?_
  obtain ⟨b19, hf⟩ := ab_guard hf
  obtain ⟨h20, eh20, hf⟩ := ab_let_x hf
  refine ab_newaI (pc2 := 58) tw_8 b19 (by decide) (by decide) (by decide) (by omega) (by omega) dX12_init_56 rfl ?_
  refine ab_topH eh20 ?_
  obtain ⟨h21, eh21, hf⟩ := ab_let_x hf
  refine ab_putR (pc2 := 61) rfl ht0 fa_X12_28 (ab_ty1 (congrArg Prod.fst b19)) (fun _ => rfl) dX12_init_58 rfl ?_
  refine ab_topH eh21 ?_
  refine ab_aload_n (x := _) (pc2 := 62) dX12_init_61 rfl rfl ?_
  refine ab_bipush (pc2 := 64) (v := 8) dX12_init_62 rfl ab_k_bipush_8 ?_
  obtain ⟨b22, hf⟩ := ab_guard hf
  obtain ⟨h23, eh23, hf⟩ := ab_let_x hf
  refine ab_newaI (pc2 := 66) tw_8 b22 (by decide) (by decide) (by decide) (by omega) (by omega) dX12_init_64 rfl ?_
  refine ab_topH eh23 ?_
  obtain ⟨h24, eh24, hf⟩ := ab_let_x hf
  refine ab_putR (pc2 := 69) rfl ht0 fa_X12_31 (ab_ty1 (congrArg Prod.fst b22)) (fun _ => rfl) dX12_init_66 rfl ?_
  refine ab_topH eh24 ?_
  refine ab_aload_n (x := _) (pc2 := 70) dX12_init_69 rfl rfl ?_
  refine ab_bipush (pc2 := 72) (v := 8) dX12_init_70 rfl ab_k_bipush_8 ?_
  obtain ⟨b25, hf⟩ := ab_guard hf
  obtain ⟨h26, eh26, hf⟩ := ab_let_x hf
  refine ab_newaI (pc2 := 74) tw_8 b25 (by decide) (by decide) (by decide) (by omega) (by omega) dX12_init_72 rfl ?_
  refine ab_topH eh26 ?_
  obtain ⟨h27, eh27, hf⟩ := ab_let_x hf
  refine ab_putR (pc2 := 77) rfl ht0 fa_X12_34 (ab_ty1 (congrArg Prod.fst b25)) (fun _ => rfl) dX12_init_74 rfl ?_
  refine ab_topH eh27 ?_
  refine ab_aload_n (x := _) (pc2 := 78) dX12_init_77 rfl rfl ?_
  refine ab_iconst (pc2 := 79) (v := 3) dX12_init_78 rfl ab_k_iconst_3 ?_
  obtain ⟨b28, hf⟩ := ab_guard hf
  obtain ⟨h29, eh29, hf⟩ := ab_let_x hf
  refine ab_newaI (pc2 := 81) tw_8 b28 (by decide) (by decide) (by decide) (by omega) (by omega) dX12_init_79 rfl ?_
  refine ab_topH eh29 ?_
  obtain ⟨h30, eh30, hf⟩ := ab_let_x hf
  refine ab_putR (pc2 := 84) rfl ht0 fa_X12_37 (ab_ty1 (congrArg Prod.fst b28)) (fun _ => rfl) dX12_init_81 rfl ?_
  refine ab_topH eh30 ?_
  refine ab_aload_n (x := _) (pc2 := 85) dX12_init_84 rfl rfl ?_
  refine ab_bipush (pc2 := 87) (v := 16) dX12_init_85 rfl ab_k_bipush_16 ?_
  obtain ⟨b31, hf⟩ := ab_guard hf
  obtain ⟨h32, eh32, hf⟩ := ab_let_x hf
  refine ab_newaI (pc2 := 89) tw_8 b31 (by decide) (by decide) (by decide) (by omega) (by omega) dX12_init_87 rfl ?_
  refine ab_topH eh32 ?_
  obtain ⟨h33, eh33, hf⟩ := ab_let_x hf
  refine ab_putR (pc2 := 92) rfl ht0 fa_X12_40 (ab_ty1 (congrArg Prod.fst b31)) (fun _ => rfl) dX12_init_89 rfl ?_
  refine ab_topH eh33 ?_
  refine ab_aload_n (x := _) (pc2 := 93) dX12_init_92 rfl rfl ?_
  refine ab_bipush (pc2 := 95) (v := 16) dX12_init_93 rfl ab_k_bipush_16 ?_
  obtain ⟨b34, hf⟩ := ab_guard hf
  obtain ⟨h35, eh35, hf⟩ := ab_let_x hf
  refine ab_newaI (pc2 := 97) tw_8 b34 (by decide) (by decide) (by decide) (by omega) (by omega) dX12_init_95 rfl ?_
  refine ab_topH eh35 ?_
  obtain ⟨h36, eh36, hf⟩ := ab_let_x hf
  refine ab_putR (pc2 := 100) rfl ht0 fa_X12_43 (ab_ty1 (congrArg Prod.fst b34)) (fun _ => rfl) dX12_init_97 rfl ?_
  refine ab_topH eh36 ?_
  refine ab_aload_n (x := _) (pc2 := 101) dX12_init_100 rfl rfl ?_
  refine ab_bipush (pc2 := 103) (v := 16) dX12_init_101 rfl ab_k_bipush_16 ?_
  obtain ⟨b37, hf⟩ := ab_guard hf
  obtain ⟨h38, eh38, hf⟩ := ab_let_x hf
  refine ab_newaI (pc2 := 105) tw_8 b37 (by decide) (by decide) (by decide) (by omega) (by omega) dX12_init_103 rfl ?_
  refine ab_topH eh38 ?_
  obtain ⟨h39, eh39, hf⟩ := ab_let_x hf
  refine ab_putR (pc2 := 108) rfl ht0 fa_X12_46 (ab_ty1 (congrArg Prod.fst b37)) (fun _ => rfl) dX12_init_105 rfl ?_
  refine ab_topH eh39 ?_
  refine ab_aload_n (x := _) (pc2 := 109) dX12_init_108 rfl rfl ?_
  refine ab_bipush (pc2 := 111) (v := 16) dX12_init_109 rfl ab_k_bipush_16 ?_
  obtain ⟨b40, hf⟩ := ab_guard hf
  obtain ⟨h41, eh41, hf⟩ := ab_let_x hf
  refine ab_newaI (pc2 := 113) tw_8 b40 (by decide) (by decide) (by decide) (by omega) (by omega) dX12_init_111 rfl ?_
  refine ab_topH eh41 ?_
  obtain ⟨h42, eh42, hf⟩ := ab_let_x hf
  refine ab_putR (pc2 := 116) rfl ht0 fa_X12_49 (ab_ty1 (congrArg Prod.fst b40)) (fun _ => rfl) dX12_init_113 rfl ?_
  refine ab_topH eh42 ?_
  refine ab_aload_n (x := _) (pc2 := 117) dX12_init_116 rfl rfl ?_
  refine ab_bipush (pc2 := 119) (v := 16) dX12_init_117 rfl ab_k_bipush_16 ?_
  obtain ⟨b43, hf⟩ := ab_guard hf
  obtain ⟨h44, eh44, hf⟩ := ab_let_x hf
  refine ab_newaI (pc2 := 121) tw_8 b43 (by decide) (by decide) (by decide) (by omega) (by omega) dX12_init_119 rfl ?_
  refine ab_topH eh44 ?_
  obtain ⟨h45, eh45, hf⟩ := ab_let_x hf
  refine ab_putR (pc2 := 124) rfl ht0 fa_X12_52 (ab_ty1 (congrArg Prod.fst b43)) (fun _ => rfl) dX12_init_121 rfl ?_
  refine ab_topH eh45 ?_
  refine ab_aload_n (x := _) (pc2 := 125) dX12_init_124 rfl rfl ?_
  refine ab_iconst (pc2 := 126) (v := 5) dX12_init_125 rfl ab_k_iconst_5 ?_
  obtain ⟨b46, hf⟩ := ab_guard hf
  obtain ⟨h47, eh47, hf⟩ := ab_let_x hf
  refine ab_newaI (pc2 := 128) tw_8 b46 (by decide) (by decide) (by decide) (by omega) (by omega) dX12_init_126 rfl ?_
  refine ab_topH eh47 ?_
  obtain ⟨h48, eh48, hf⟩ := ab_let_x hf
  refine ab_putR (pc2 := 131) rfl ht0 fa_X12_55 (ab_ty1 (congrArg Prod.fst b46)) (fun _ => rfl) dX12_init_128 rfl ?_
  refine ab_topH eh48 ?_
  refine ab_aload_n (x := _) (pc2 := 132) dX12_init_131 rfl rfl ?_
  refine ab_bipush (pc2 := 134) (v := 16) dX12_init_132 rfl ab_k_bipush_16 ?_
  obtain ⟨b49, hf⟩ := ab_guard hf
  obtain ⟨h50, eh50, hf⟩ := ab_let_x hf
  refine ab_newaI (pc2 := 136) tw_8 b49 (by decide) (by decide) (by decide) (by omega) (by omega) dX12_init_134 rfl ?_
  refine ab_topH eh50 ?_
  obtain ⟨h51, eh51, hf⟩ := ab_let_x hf
  refine ab_putR (pc2 := 139) rfl ht0 fa_X12_58 (ab_ty1 (congrArg Prod.fst b49)) (fun _ => rfl) dX12_init_136 rfl ?_
  refine ab_topH eh51 ?_
  refine ab_aload_n (x := _) (pc2 := 140) dX12_init_139 rfl rfl ?_
  refine ab_getR (pc2 := 143) rfl ht0 fa_X12_9 dX12_init_140 rfl (fun T52 => ?_)
  refine ab_iconst (pc2 := 144) (v := 1) dX12_init_143 rfl ab_k_iconst_1 ?_
  refine ab_bipush (pc2 := 146) (v := 100) dX12_init_144 rfl ab_k_bipush_100 ?_
  obtain ⟨q53, hq53, hf⟩ := ab_bind hf
  obtain ⟨b54, hf⟩ := ab_guard hf
  obtain ⟨h55, eh55, hf⟩ := ab_let_x hf
  refine ab_iast (pc2 := 147) hq53 (T52 q53 hq53) (ab_in_vp b54) dX12_init_146 rfl ?_
  refine ab_topH eh55 ?_
  refine ab_aload_n (x := _) (pc2 := 148) dX12_init_147 rfl rfl ?_
  refine ab_getR (pc2 := 151) rfl ht0 fa_X12_9 dX12_init_148 rfl (fun T56 => ?_)
  refine ab_iconst (pc2 := 152) (v := 4) dX12_init_151 rfl ab_k_iconst_4 ?_
  refine ab_bipush (pc2 := 154) (v := 10) dX12_init_152 rfl ab_k_bipush_10 ?_
  obtain ⟨q57, hq57, hf⟩ := ab_bind hf
  obtain ⟨b58, hf⟩ := ab_guard hf
  obtain ⟨h59, eh59, hf⟩ := ab_let_x hf
  refine ab_iast (pc2 := 155) hq57 (T56 q57 hq57) (ab_in_vp b58) dX12_init_154 rfl ?_
  refine ab_topH eh59 ?_
  cases Option.some.inj hf
  exact ab_retV dX12_init_155 rfl (by omega) (by omega) ⟨rfl, rfl⟩
set_option maxHeartbeats 4000000 in
set_option maxRecDepth 100000 in
theorem m_X12_init {d : Nat} {t0 : Nat} {h : ab_HP} {r : ab_HP} (ht0 : (ab_shp t0).1 = 5) (hf : f_X12_init t0 h = some r) : ab_MET mX12_init (d + 1) 17 1085 [va_rf (some t0)] h (ab_Pv r) := ab_met (by decide +kernel) (by decide +kernel) (Nat.le_of_ble_eq_true rfl) rfl (x_X12_init ht0 hf)
set_option maxHeartbeats 4000000 in
set_option maxRecDepth 100000 in
theorem x_X12_isIn {d : Nat} {i0 : Int64} {i2 : Int64} {i4 : Int64} {h : ab_HP} {r : Int32}  (hf : f_X12_isIn i0 i2 i4 h = some r) : ab_T mX12_isIn (d + 0) 0 0 0 0 0 [some (.long i0), none, some (.long i2), none, some (.long i4), none] [] h (ab_Pb r h) := by
  unfold f_X12_isIn at hf
  refine ab_lload_n (pc2 := 1) dX12_isIn_0 rfl rfl ?_
  refine ab_lload_n (pc2 := 2) dX12_isIn_1 rfl rfl ?_
  refine ab_lcmp (pc2 := 3) dX12_isIn_2 rfl ?_
  refine ab_if_lt (tgt := 17) (pc2 := 6) dX12_isIn_3 (by decide) rfl hf (fun c1 hf => ?_) (fun c1 hf => ?_)
  · refine ab_iconst (pc2 := 18) (v := 0) dX12_isIn_17 rfl ab_k_iconst_0 ?_
    cases Option.some.inj hf
    exact ab_retI dX12_isIn_18 (Or.inr ⟨rfl, (Or.inl rfl)⟩) (Nat.le_refl _) (Nat.le_refl _) ⟨rfl, rfl, (Or.inl rfl)⟩
  · refine ab_lload_n (pc2 := 7) dX12_isIn_6 rfl rfl ?_
    refine ab_lload (pc2 := 9) dX12_isIn_7 rfl rfl ?_
    refine ab_lcmp (pc2 := 10) dX12_isIn_9 rfl ?_
    refine ab_if_gt (tgt := 17) (pc2 := 13) dX12_isIn_10 (by decide) rfl hf (fun c2 hf => ?_) (fun c2 hf => ?_)
    · refine ab_iconst (pc2 := 18) (v := 0) dX12_isIn_17 rfl ab_k_iconst_0 ?_
      cases Option.some.inj hf
      exact ab_retI dX12_isIn_18 (Or.inr ⟨rfl, (Or.inl rfl)⟩) (Nat.le_refl _) (Nat.le_refl _) ⟨rfl, rfl, (Or.inl rfl)⟩
    · refine ab_iconst (pc2 := 14) (v := 1) dX12_isIn_13 rfl ab_k_iconst_1 ?_
      refine ab_goto (tgt := 18) dX12_isIn_14 (by decide) ?_
      cases Option.some.inj hf
      exact ab_retI dX12_isIn_18 (Or.inr ⟨rfl, (Or.inr rfl)⟩) (Nat.le_refl _) (Nat.le_refl _) ⟨rfl, rfl, (Or.inr rfl)⟩
set_option maxHeartbeats 4000000 in
set_option maxRecDepth 100000 in
theorem m_X12_isIn {d : Nat} {i0 : Int64} {i2 : Int64} {i4 : Int64} {h : ab_HP} {r : Int32}  (hf : f_X12_isIn i0 i2 i4 h = some r) : ab_MET mX12_isIn (d + 0) 0 0 [.long i0, .long i2, .long i4] h (ab_Pb r h) := ab_met (by decide +kernel) (by decide +kernel) (Nat.le_of_ble_eq_true rfl) rfl (x_X12_isIn  hf)
set_option maxHeartbeats 4000000 in
set_option maxRecDepth 100000 in
theorem x_X12_isShelf {d : Nat} {i0 : Int32} {h : ab_HP} {r : Int32}  (hf : f_X12_isShelf i0 h = some r) : ab_T mX12_isShelf (d + 1) 0 0 0 0 0 [some (.int i0)] [] h (ab_Pb r h) := by
  unfold f_X12_isShelf at hf
  refine ab_iload_n (pc2 := 1) dX12_isShelf_0 rfl rfl ?_
  refine ab_i2l (pc2 := 2) dX12_isShelf_1 rfl ?_
  refine ab_lconst (pc2 := 3) (v := 0) dX12_isShelf_2 rfl rfl ?_
  refine ab_ldc2 (pc2 := 6) (v := 7) dX12_isShelf_3 rfl tw_100 ?_
  obtain ⟨w1, ew1, hf⟩ := ab_bind hf
  refine ab_callS (pc2 := 9) (st := []) (m_X12_isIn (d := (d + 0)) ew1) mf_X12_isIn tw_101 tw_102 dX12_isShelf_6 rfl (by omega) (Nat.le_refl _) (Nat.le_refl _) rfl (Nat.le_of_ble_eq_true rfl) (ab_kPb fun z2 => ?_)
  cases Option.some.inj hf
  exact ab_retI dX12_isShelf_9 (Or.inr ⟨rfl, z2⟩) (Nat.le_refl _) (Nat.le_refl _) ⟨rfl, rfl, z2⟩
set_option maxHeartbeats 4000000 in
set_option maxRecDepth 100000 in
theorem m_X12_isShelf {d : Nat} {i0 : Int32} {h : ab_HP} {r : Int32}  (hf : f_X12_isShelf i0 h = some r) : ab_MET mX12_isShelf (d + 1) 0 0 [.int i0] h (ab_Pb r h) := ab_met (by decide +kernel) (by decide +kernel) (Nat.le_of_ble_eq_true rfl) rfl (x_X12_isShelf  hf)
set_option maxHeartbeats 4000000 in
set_option maxRecDepth 100000 in
theorem x_X12_wrongRow {d : Nat} {t0 : Nat} {i1 : Int32} {i2 : Int32} {h : ab_HP} {r : Int32} (ht0 : (ab_shp t0).1 = 5) (hf : f_X12_wrongRow t0 i1 i2 h = some r) : ab_T mX12_wrongRow (d + 2) 0 0 0 0 0 [some (va_rf (some t0)), some (.int i1), some (.int i2)] [] h (ab_Pi r h) := by
  unfold f_X12_wrongRow at hf
  refine ab_iload_n (pc2 := 1) dX12_wrongRow_0 rfl rfl ?_
  obtain ⟨w1, ew1, hf⟩ := ab_bind hf
  refine ab_callS (pc2 := 4) (st := []) (m_X12_isShelf (d := (d + 0)) ew1) mf_X12_isShelf tw_103 tw_104 dX12_wrongRow_1 rfl (by omega) (Nat.le_refl _) (Nat.le_refl _) rfl (Nat.le_of_ble_eq_true rfl) (ab_kPb fun z2 => ?_)
  refine ab_if_ne (tgt := 11) (pc2 := 7) dX12_wrongRow_4 (by decide) rfl hf (fun c3 hf => ?_) (fun c3 hf => ?_)
  · refine ab_aload_n (x := _) (pc2 := 12) dX12_wrongRow_11 rfl rfl ?_
    refine ab_getR (pc2 := 15) rfl ht0 fa_X12_19 dX12_wrongRow_12 rfl (fun T4 => ?_)
    refine ab_iload_n (pc2 := 16) dX12_wrongRow_15 rfl rfl ?_
    obtain ⟨q5, hq5, hf⟩ := ab_bind hf
    obtain ⟨b6, hf⟩ := ab_guard hf
    refine ab_iald (pc2 := 17) hq5 (T4 q5 hq5) (ab_in_vp b6) dX12_wrongRow_16 rfl ?_
    refine ab_if_ne (tgt := 25) (pc2 := 20) dX12_wrongRow_17 (by decide) rfl hf (fun c7 hf => ?_) (fun c7 hf => ?_)
    · refine ab_aload_n (x := _) (pc2 := 26) dX12_wrongRow_25 rfl rfl ?_
      refine ab_getR (pc2 := 29) rfl ht0 fa_X12_19 dX12_wrongRow_26 rfl (fun T8 => ?_)
      refine ab_iload_n (pc2 := 30) dX12_wrongRow_29 rfl rfl ?_
      obtain ⟨q9, hq9, hf⟩ := ab_bind hf
      obtain ⟨b10, hf⟩ := ab_guard hf
      refine ab_iald (pc2 := 31) hq9 (T8 q9 hq9) (ab_in_vp b10) dX12_wrongRow_30 rfl ?_
      refine ab_iconst (pc2 := 32) (v := 2) dX12_wrongRow_31 rfl ab_k_iconst_2 ?_
      refine ab_icmp_ne (tgt := 49) (pc2 := 35) dX12_wrongRow_32 (by decide) rfl hf (fun c11 hf => ?_) (fun c11 hf => ?_)
      · refine ab_bipush (pc2 := 51) (v := (-12)) dX12_wrongRow_49 rfl ab_k_bipush_m12 ?_
        refine ab_goto (tgt := 55) dX12_wrongRow_51 (by decide) ?_
        cases Option.some.inj hf
        exact ab_retI dX12_wrongRow_55 (Or.inl rfl) (Nat.le_refl _) (Nat.le_refl _) ⟨rfl, rfl⟩
      · refine ab_iload_n (pc2 := 36) dX12_wrongRow_35 rfl rfl ?_
        refine ab_if_lt (tgt := 54) (pc2 := 39) dX12_wrongRow_36 (by decide) rfl hf (fun c12 hf => ?_) (fun c12 hf => ?_)
        · refine ab_iconst (pc2 := 55) (v := 0) dX12_wrongRow_54 rfl ab_k_iconst_0 ?_
          cases Option.some.inj hf
          exact ab_retI dX12_wrongRow_55 (Or.inl rfl) (Nat.le_refl _) (Nat.le_refl _) ⟨rfl, rfl⟩
        · refine ab_aload_n (x := _) (pc2 := 40) dX12_wrongRow_39 rfl rfl ?_
          refine ab_getR (pc2 := 43) rfl ht0 fa_X12_22 dX12_wrongRow_40 rfl (fun T13 => ?_)
          refine ab_iload_n (pc2 := 44) dX12_wrongRow_43 rfl rfl ?_
          obtain ⟨q14, hq14, hf⟩ := ab_bind hf
          obtain ⟨b15, hf⟩ := ab_guard hf
          refine ab_iald (pc2 := 45) hq14 (T13 q14 hq14) (ab_in_vp b15) dX12_wrongRow_44 rfl ?_
          refine ab_iload_n (pc2 := 46) dX12_wrongRow_45 rfl rfl ?_
          refine ab_icmp_eq (tgt := 54) (pc2 := 49) dX12_wrongRow_46 (by decide) rfl hf (fun c16 hf => ?_) (fun c16 hf => ?_)
          · refine ab_iconst (pc2 := 55) (v := 0) dX12_wrongRow_54 rfl ab_k_iconst_0 ?_
            cases Option.some.inj hf
            exact ab_retI dX12_wrongRow_55 (Or.inl rfl) (Nat.le_refl _) (Nat.le_refl _) ⟨rfl, rfl⟩
          · refine ab_bipush (pc2 := 51) (v := (-12)) dX12_wrongRow_49 rfl ab_k_bipush_m12 ?_
            refine ab_goto (tgt := 55) dX12_wrongRow_51 (by decide) ?_
            cases Option.some.inj hf
            exact ab_retI dX12_wrongRow_55 (Or.inl rfl) (Nat.le_refl _) (Nat.le_refl _) ⟨rfl, rfl⟩
    · refine ab_bipush (pc2 := 22) (v := (-11)) dX12_wrongRow_20 rfl ab_k_bipush_m11 ?_
      refine ab_goto (tgt := 55) dX12_wrongRow_22 (by decide) ?_
      cases Option.some.inj hf
      exact ab_retI dX12_wrongRow_55 (Or.inl rfl) (Nat.le_refl _) (Nat.le_refl _) ⟨rfl, rfl⟩
  · refine ab_iconst (pc2 := 8) (v := (-1)) dX12_wrongRow_7 rfl ab_k_iconst_m1 ?_
    refine ab_goto (tgt := 55) dX12_wrongRow_8 (by decide) ?_
    cases Option.some.inj hf
    exact ab_retI dX12_wrongRow_55 (Or.inl rfl) (Nat.le_refl _) (Nat.le_refl _) ⟨rfl, rfl⟩
set_option maxHeartbeats 4000000 in
set_option maxRecDepth 100000 in
theorem m_X12_wrongRow {d : Nat} {t0 : Nat} {i1 : Int32} {i2 : Int32} {h : ab_HP} {r : Int32} (ht0 : (ab_shp t0).1 = 5) (hf : f_X12_wrongRow t0 i1 i2 h = some r) : ab_MET mX12_wrongRow (d + 2) 0 0 [va_rf (some t0), .int i1, .int i2] h (ab_Pi r h) := ab_met (by decide +kernel) (by decide +kernel) (Nat.le_of_ble_eq_true rfl) rfl (x_X12_wrongRow ht0 hf)
set_option maxHeartbeats 4000000 in
set_option maxRecDepth 100000 in
theorem x_X12_here {d : Nat} {t0 : Nat} {h : ab_HP} {r : Int32} (ht0 : (ab_shp t0).1 = 5) (hf : f_X12_here t0 h = some r) : ab_T mX12_here (d + 0) 0 0 0 0 0 [some (va_rf (some t0))] [] h (ab_Pi r h) := by
  unfold f_X12_here at hf
  refine ab_aload_n (x := _) (pc2 := 1) dX12_here_0 rfl rfl ?_
  refine ab_getI (pc2 := 4) rfl ht0 fa_X12_73 (by decide) dX12_here_1 rfl ?_
  refine ab_aload_n (x := _) (pc2 := 5) dX12_here_4 rfl rfl ?_
  refine ab_getI (pc2 := 8) rfl ht0 fa_X12_76 (by decide) dX12_here_5 rfl ?_
  refine ab_icmp_ge (tgt := 28) (pc2 := 11) dX12_here_8 (by decide) rfl hf (fun c1 hf => ?_) (fun c1 hf => ?_)
  · refine ab_sipush (pc2 := 31) (v := (-1000)) dX12_here_28 rfl ab_k_sipush_m1000 ?_
    cases Option.some.inj hf
    exact ab_retI dX12_here_31 (Or.inl rfl) (Nat.le_refl _) (Nat.le_refl _) ⟨rfl, rfl⟩
  · refine ab_aload_n (x := _) (pc2 := 12) dX12_here_11 rfl rfl ?_
    refine ab_getR (pc2 := 15) rfl ht0 fa_X12_28 dX12_here_12 rfl (fun T2 => ?_)
    refine ab_aload_n (x := _) (pc2 := 16) dX12_here_15 rfl rfl ?_
    refine ab_getI (pc2 := 19) rfl ht0 fa_X12_79 (by decide) dX12_here_16 rfl ?_
    refine ab_aload_n (x := _) (pc2 := 20) dX12_here_19 rfl rfl ?_
    refine ab_getI (pc2 := 23) rfl ht0 fa_X12_73 (by decide) dX12_here_20 rfl ?_
    refine ab_iadd (pc2 := 24) dX12_here_23 rfl ?_
    obtain ⟨q3, hq3, hf⟩ := ab_bind hf
    obtain ⟨b4, hf⟩ := ab_guard hf
    refine ab_iald (pc2 := 25) hq3 (T2 q3 hq3) (ab_in_vp b4) dX12_here_24 rfl ?_
    refine ab_goto (tgt := 31) dX12_here_25 (by decide) ?_
    cases Option.some.inj hf
    exact ab_retI dX12_here_31 (Or.inl rfl) (Nat.le_refl _) (Nat.le_refl _) ⟨rfl, rfl⟩
set_option maxHeartbeats 4000000 in
set_option maxRecDepth 100000 in
theorem m_X12_here {d : Nat} {t0 : Nat} {h : ab_HP} {r : Int32} (ht0 : (ab_shp t0).1 = 5) (hf : f_X12_here t0 h = some r) : ab_MET mX12_here (d + 0) 0 0 [va_rf (some t0)] h (ab_Pi r h) := ab_met (by decide +kernel) (by decide +kernel) (Nat.le_of_ble_eq_true rfl) rfl (x_X12_here ht0 hf)
