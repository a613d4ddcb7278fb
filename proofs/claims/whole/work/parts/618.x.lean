set_option maxHeartbeats 4000000 in
set_option maxRecDepth 100000 in
theorem x_X12_ever_l18 {d : Nat} {k9 : Int32 → Int32 → ab_HP → Option Int32} {t0 : Nat} {r : Int32} (ht0 : (ab_shp t0).1 = 5) (hk9 : ∀ (i1 : Int32) (i2 : Int32) (h : ab_HP), k9 i1 i2 h = some r → ab_T mX12_ever (d + 2) 0 0 0 0 9 [some (va_rf (some t0)), some (.int i1), some (.int i2), none, none] [] h (ab_Pi r h)) : ∀ (n : Nat) (i1 : Int32) (i3 : Int32) (i4 : Int32) (h : ab_HP), f_X12_ever_l18 k9 t0 n i1 i3 i4 h = some r → ab_T mX12_ever (d + 2) 0 0 0 0 18 [some (va_rf (some t0)), some (.int i1), none, some (.int i3), some (.int i4)] [] h (ab_Pi r h) := by
  intro n
  induction n with
  | zero =>
    intro i1 i3 i4 h hf
    rw [f_X12_ever_l18] at hf
    cases hf
  | succ n ih =>
    intro i1 i3 i4 h hf
    rw [f_X12_ever_l18] at hf
    refine ab_iload (pc2 := 20) dX12_ever_18 rfl rfl ?_
    refine ab_aload_n (x := _) (pc2 := 21) dX12_ever_20 rfl rfl ?_
    refine ab_getR (pc2 := 24) rfl ht0 fa_X12_9 dX12_ever_21 rfl (fun T5 => ?_)
    refine ab_bipush (pc2 := 26) (v := 6) dX12_ever_24 rfl ab_k_bipush_6 ?_
    obtain ⟨q6, hq6, hf⟩ := ab_bind hf
    obtain ⟨b7, hf⟩ := ab_guard hf
    refine ab_iald (pc2 := 27) hq6 (T5 q6 hq6) (ab_in_vp b7) dX12_ever_26 rfl ?_
    refine ab_icmp_ge (tgt := 70) (pc2 := 30) dX12_ever_27 (by decide) rfl hf (fun c8 hf => ?_) (fun c8 hf => ?_)
    · refine ab_iload_n (pc2 := 71) dX12_ever_70 rfl rfl ?_
      refine ab_iload_n (pc2 := 72) dX12_ever_71 rfl rfl ?_
      refine ab_icmp_eq (tgt := 79) (pc2 := 75) dX12_ever_72 (by decide) rfl hf (fun c9 hf => ?_) (fun c9 hf => ?_)
      · refine ab_iconst (pc2 := 80) (v := 0) dX12_ever_79 rfl ab_k_iconst_0 ?_
        refine ab_istore_n (pc2 := 81) (lo2 := [some (va_rf _), some (.int _), some (.int _), some (.int _), some (.int _)]) dX12_ever_80 rfl (by decide) rfl ?_
        refine ab_goto (tgt := 9) dX12_ever_81 (by decide) ?_
        exact ab_weak (hk9 _ _ _ hf) (ab_leS (ab_leS (ab_leS (ab_leN (ab_leN ab_le0)))))
      · refine ab_iconst (pc2 := 76) (v := 1) dX12_ever_75 rfl ab_k_iconst_1 ?_
        refine ab_goto (tgt := 80) dX12_ever_76 (by decide) ?_
        refine ab_istore_n (pc2 := 81) (lo2 := [some (va_rf _), some (.int _), some (.int _), some (.int _), some (.int _)]) dX12_ever_80 rfl (by decide) rfl ?_
        refine ab_goto (tgt := 9) dX12_ever_81 (by decide) ?_
        exact ab_weak (hk9 _ _ _ hf) (ab_leS (ab_leS (ab_leS (ab_leN (ab_leN ab_le0)))))
    · refine ab_aload_n (x := _) (pc2 := 31) dX12_ever_30 rfl rfl ?_
      refine ab_iload (pc2 := 33) dX12_ever_31 rfl rfl ?_
      refine ab_iconst (pc2 := 34) (v := 0) dX12_ever_33 rfl ab_k_iconst_0 ?_
      obtain ⟨w10, ew10, hf⟩ := ab_bind hf
      refine ab_callV (pc2 := 37) (st := []) rfl ht0 (by decide) (m_X12_get (d := (d + 1)) ht0 ew10) mf_X12_get tw_129 tw_128 ts_X12_get (Or.inl (by decide +kernel)) dX12_ever_34 rfl (by omega) (Nat.le_refl _) (Nat.le_refl _) rfl (Nat.le_of_ble_eq_true rfl) (ab_kPi ?_)
      refine ab_bipush (pc2 := 39) (v := 6) dX12_ever_37 rfl ab_k_bipush_6 ?_
      refine ab_icmp_eq (tgt := 64) (pc2 := 42) dX12_ever_39 (by decide) rfl hf (fun c11 hf => ?_) (fun c11 hf => ?_)
      · refine ab_iinc (pc2 := 67) (v := _ + 1) (lo2 := [some (va_rf _), some (.int _), none, some (.int _), some (.int _)]) dX12_ever_64 rfl rfl rfl (by decide) rfl ?_
        refine ab_goto (tgt := 18) dX12_ever_67 (by decide) ?_
        exact ab_weak (ih _ _ _ _ hf) (ab_leS (ab_leS (ab_leN (ab_leS (ab_leS ab_le0)))))
      · refine ab_aload_n (x := _) (pc2 := 43) dX12_ever_42 rfl rfl ?_
        refine ab_iload (pc2 := 45) dX12_ever_43 rfl rfl ?_
        refine ab_iconst (pc2 := 46) (v := 1) dX12_ever_45 rfl ab_k_iconst_1 ?_
        obtain ⟨w12, ew12, hf⟩ := ab_bind hf
        refine ab_callV (pc2 := 49) (st := []) rfl ht0 (by decide) (m_X12_get (d := (d + 1)) ht0 ew12) mf_X12_get tw_129 tw_128 ts_X12_get (Or.inl (by decide +kernel)) dX12_ever_46 rfl (by omega) (Nat.le_refl _) (Nat.le_refl _) rfl (Nat.le_of_ble_eq_true rfl) (ab_kPi ?_)
        refine ab_iload_n (pc2 := 50) dX12_ever_49 rfl rfl ?_
        refine ab_iconst (pc2 := 51) (v := (-1)) dX12_ever_50 rfl ab_k_iconst_m1 ?_
        refine ab_ixor (pc2 := 52) dX12_ever_51 rfl ?_
        refine ab_iand (pc2 := 53) dX12_ever_52 rfl ?_
        refine ab_if_ne (tgt := 64) (pc2 := 56) dX12_ever_53 (by decide) rfl hf (fun c13 hf => ?_) (fun c13 hf => ?_)
        · refine ab_iinc (pc2 := 67) (v := _ + 1) (lo2 := [some (va_rf _), some (.int _), none, some (.int _), some (.int _)]) dX12_ever_64 rfl rfl rfl (by decide) rfl ?_
          refine ab_goto (tgt := 18) dX12_ever_67 (by decide) ?_
          exact ab_weak (ih _ _ _ _ hf) (ab_leS (ab_leS (ab_leN (ab_leS (ab_leS ab_le0)))))
        · refine ab_aload_n (x := _) (pc2 := 57) dX12_ever_56 rfl rfl ?_
          refine ab_iload (pc2 := 59) dX12_ever_57 rfl rfl ?_
          refine ab_iload_n (pc2 := 60) dX12_ever_59 rfl rfl ?_
          obtain ⟨w14, ew14, hf⟩ := ab_bind hf
          refine ab_callV (pc2 := 63) (st := []) rfl ht0 (by decide) (m_X12_marksBy (d := (d + 0)) ht0 ew14) mf_X12_marksBy tw_208 tw_207 ts_X12_marksBy (Or.inl (by decide +kernel)) dX12_ever_60 rfl (by omega) (Nat.le_refl _) (Nat.le_refl _) rfl (Nat.le_of_ble_eq_true rfl) (ab_kPi ?_)
          refine ab_istore_n (pc2 := 64) (lo2 := [some (va_rf _), some (.int _), none, some (.int _), some (.int _)]) dX12_ever_63 rfl (by decide) rfl ?_
          refine ab_iinc (pc2 := 67) (v := _ + 1) (lo2 := [some (va_rf _), some (.int _), none, some (.int _), some (.int _)]) dX12_ever_64 rfl rfl rfl (by decide) rfl ?_
          refine ab_goto (tgt := 18) dX12_ever_67 (by decide) ?_
          exact ab_weak (ih _ _ _ _ hf) (ab_leS (ab_leS (ab_leN (ab_leS (ab_leS ab_le0)))))
set_option maxHeartbeats 4000000 in
set_option maxRecDepth 100000 in
theorem x_X12_ever_l9 {d : Nat} {t0 : Nat} {r : Int32} (ht0 : (ab_shp t0).1 = 5) : ∀ (n : Nat) (i1 : Int32) (i2 : Int32) (h : ab_HP), f_X12_ever_l9 t0 n i1 i2 h = some r → ab_T mX12_ever (d + 2) 0 0 0 0 9 [some (va_rf (some t0)), some (.int i1), some (.int i2), none, none] [] h (ab_Pi r h) := by
  intro n
  induction n with
  | zero =>
    intro i1 i2 h hf
    rw [f_X12_ever_l9] at hf
    cases hf
  | succ n ih =>
    intro i1 i2 h hf
    rw [f_X12_ever_l9] at hf
    refine ab_iload_n (pc2 := 10) dX12_ever_9 rfl rfl ?_
    refine ab_if_eq (tgt := 84) (pc2 := 13) dX12_ever_10 (by decide) rfl hf (fun c4 hf => ?_) (fun c4 hf => ?_)
    · refine ab_iload_n (pc2 := 85) dX12_ever_84 rfl rfl ?_
      cases Option.some.inj hf
      exact ab_retI dX12_ever_85 (Or.inl rfl) (Nat.le_refl _) (Nat.le_refl _) ⟨rfl, rfl⟩
    · refine ab_iload_n (pc2 := 14) dX12_ever_13 rfl rfl ?_
      refine ab_istore_n (pc2 := 15) (lo2 := [some (va_rf _), some (.int _), some (.int _), some (.int _), none]) dX12_ever_14 rfl (by decide) rfl ?_
      refine ab_iconst (pc2 := 16) (v := 0) dX12_ever_15 rfl ab_k_iconst_0 ?_
      refine ab_istore (pc2 := 18) (lo2 := [some (va_rf _), some (.int _), some (.int _), some (.int _), some (.int _)]) dX12_ever_16 rfl (by decide) rfl ?_
      exact ab_weak (x_X12_ever_l18 ht0 ih _ _ _ _ _ hf) (ab_leS (ab_leS (ab_leN (ab_leS (ab_leS ab_le0)))))
set_option maxHeartbeats 4000000 in
set_option maxRecDepth 100000 in
theorem x_X12_ever {d : Nat} {t0 : Nat} {h : ab_HP} {r : Int32} (ht0 : (ab_shp t0).1 = 5) (hf : f_X12_ever t0 h = some r) : ab_T mX12_ever (d + 2) 0 0 0 0 0 [some (va_rf (some t0)), none, none, none, none] [] h (ab_Pi r h) := by
  unfold f_X12_ever at hf
  refine ab_aload_n (x := _) (pc2 := 1) dX12_ever_0 rfl rfl ?_
  refine ab_getR (pc2 := 4) rfl ht0 fa_X12_9 dX12_ever_1 rfl (fun T1 => ?_)
  refine ab_iconst (pc2 := 5) (v := 0) dX12_ever_4 rfl ab_k_iconst_0 ?_
  obtain ⟨q2, hq2, hf⟩ := ab_bind hf
  obtain ⟨b3, hf⟩ := ab_guard hf
  refine ab_iald (pc2 := 6) hq2 (T1 q2 hq2) (ab_in_vp b3) dX12_ever_5 rfl ?_
  refine ab_istore_n (pc2 := 7) (lo2 := [some (va_rf _), some (.int _), none, none, none]) dX12_ever_6 rfl (by decide) rfl ?_
  refine ab_iconst (pc2 := 8) (v := 1) dX12_ever_7 rfl ab_k_iconst_1 ?_
  refine ab_istore_n (pc2 := 9) (lo2 := [some (va_rf _), some (.int _), some (.int _), none, none]) dX12_ever_8 rfl (by decide) rfl ?_
  exact ab_weak (x_X12_ever_l9 ht0 _ _ _ _ hf) (ab_leS (ab_leS (ab_leS (ab_leN (ab_leN ab_le0)))))
set_option maxHeartbeats 4000000 in
set_option maxRecDepth 100000 in
theorem m_X12_ever {d : Nat} {t0 : Nat} {h : ab_HP} {r : Int32} (ht0 : (ab_shp t0).1 = 5) (hf : f_X12_ever t0 h = some r) : ab_MET mX12_ever (d + 2) 0 0 [va_rf (some t0)] h (ab_Pi r h) := ab_met (by decide +kernel) (by decide +kernel) (Nat.le_of_ble_eq_true rfl) rfl (x_X12_ever ht0 hf)
set_option maxHeartbeats 4000000 in
set_option maxRecDepth 100000 in
theorem x_X12_help_l4 {d : Nat} {t0 : Nat} {r : Int32} (ht0 : (ab_shp t0).1 = 5) : ∀ (n : Nat) (i1 : Int32) (i2 : Int32) (h : ab_HP), f_X12_help_l4 t0 n i1 i2 h = some r → ab_T mX12_help (d + 3) 0 0 0 0 4 [some (va_rf (some t0)), some (.int i1), some (.int i2)] [] h (ab_Pi r h) := by
  intro n
  induction n with
  | zero =>
    intro i1 i2 h hf
    rw [f_X12_help_l4] at hf
    cases hf
  | succ n ih =>
    intro i1 i2 h hf
    rw [f_X12_help_l4] at hf
    refine ab_iload_n (pc2 := 5) dX12_help_4 rfl rfl ?_
    refine ab_aload_n (x := _) (pc2 := 6) dX12_help_5 rfl rfl ?_
    refine ab_getR (pc2 := 9) rfl ht0 fa_X12_9 dX12_help_6 rfl (fun T1 => ?_)
    refine ab_bipush (pc2 := 11) (v := 6) dX12_help_9 rfl ab_k_bipush_6 ?_
    obtain ⟨q2, hq2, hf⟩ := ab_bind hf
    obtain ⟨b3, hf⟩ := ab_guard hf
    refine ab_iald (pc2 := 12) hq2 (T1 q2 hq2) (ab_in_vp b3) dX12_help_11 rfl ?_
    refine ab_icmp_ge (tgt := 70) (pc2 := 15) dX12_help_12 (by decide) rfl hf (fun c4 hf => ?_) (fun c4 hf => ?_)
    · refine ab_iload_n (pc2 := 71) dX12_help_70 rfl rfl ?_
      cases Option.some.inj hf
      exact ab_retI dX12_help_71 (Or.inl rfl) (Nat.le_refl _) (Nat.le_refl _) ⟨rfl, rfl⟩
    · refine ab_aload_n (x := _) (pc2 := 16) dX12_help_15 rfl rfl ?_
      refine ab_iload_n (pc2 := 17) dX12_help_16 rfl rfl ?_
      refine ab_iconst (pc2 := 18) (v := 0) dX12_help_17 rfl ab_k_iconst_0 ?_
      obtain ⟨w5, ew5, hf⟩ := ab_bind hf
      refine ab_callV (pc2 := 21) (st := []) rfl ht0 (by decide) (m_X12_get (d := (d + 2)) ht0 ew5) mf_X12_get tw_129 tw_128 ts_X12_get (Or.inl (by decide +kernel)) dX12_help_18 rfl (by omega) (Nat.le_refl _) (Nat.le_refl _) rfl (Nat.le_of_ble_eq_true rfl) (ab_kPi ?_)
      refine ab_bipush (pc2 := 23) (v := 6) dX12_help_21 rfl ab_k_bipush_6 ?_
      refine ab_icmp_ne (tgt := 64) (pc2 := 26) dX12_help_23 (by decide) rfl hf (fun c6 hf => ?_) (fun c6 hf => ?_)
      · refine ab_iinc (pc2 := 67) (v := _ + 1) (lo2 := [some (va_rf _), some (.int _), some (.int _)]) dX12_help_64 rfl rfl rfl (by decide) rfl ?_
        refine ab_goto (tgt := 4) dX12_help_67 (by decide) ?_
        exact ab_weak (ih _ _ _ hf) (ab_leS (ab_leS (ab_leS ab_le0)))
      · refine ab_aload_n (x := _) (pc2 := 27) dX12_help_26 rfl rfl ?_
        refine ab_iload_n (pc2 := 28) dX12_help_27 rfl rfl ?_
        refine ab_aload_n (x := _) (pc2 := 29) dX12_help_28 rfl rfl ?_
        refine ab_getR (pc2 := 32) rfl ht0 fa_X12_9 dX12_help_29 rfl (fun T7 => ?_)
        refine ab_iconst (pc2 := 33) (v := 0) dX12_help_32 rfl ab_k_iconst_0 ?_
        obtain ⟨q8, hq8, hf⟩ := ab_bind hf
        obtain ⟨b9, hf⟩ := ab_guard hf
        refine ab_iald (pc2 := 34) hq8 (T7 q8 hq8) (ab_in_vp b9) dX12_help_33 rfl ?_
        refine ab_aload_n (x := _) (pc2 := 35) dX12_help_34 rfl rfl ?_
        refine ab_getR (pc2 := 38) rfl ht0 fa_X12_9 dX12_help_35 rfl (fun T10 => ?_)
        refine ab_iconst (pc2 := 39) (v := 1) dX12_help_38 rfl ab_k_iconst_1 ?_
        obtain ⟨q11, hq11, hf⟩ := ab_bind hf
        obtain ⟨b12, hf⟩ := ab_guard hf
        refine ab_iald (pc2 := 40) hq11 (T10 q11 hq11) (ab_in_vp b12) dX12_help_39 rfl ?_
        obtain ⟨w13, ew13, hf⟩ := ab_bind hf
        refine ab_callV (pc2 := 43) (st := []) rfl ht0 (by decide) (m_X12_mayBy (d := (d + 0)) ht0 ew13) mf_X12_mayBy tw_153 tw_152 ts_X12_mayBy (Or.inl (by decide +kernel)) dX12_help_40 rfl (by omega) (Nat.le_refl _) (Nat.le_refl _) rfl (Nat.le_of_ble_eq_true rfl) (ab_kPb fun z14 => ?_)
        refine ab_if_eq (tgt := 64) (pc2 := 46) dX12_help_43 (by decide) rfl hf (fun c15 hf => ?_) (fun c15 hf => ?_)
        · refine ab_iinc (pc2 := 67) (v := _ + 1) (lo2 := [some (va_rf _), some (.int _), some (.int _)]) dX12_help_64 rfl rfl rfl (by decide) rfl ?_
          refine ab_goto (tgt := 4) dX12_help_67 (by decide) ?_
          exact ab_weak (ih _ _ _ hf) (ab_leS (ab_leS (ab_leS ab_le0)))
        · refine ab_iload_n (pc2 := 47) dX12_help_46 rfl rfl ?_
          refine ab_aload_n (x := _) (pc2 := 48) dX12_help_47 rfl rfl ?_
          refine ab_getR (pc2 := 51) rfl ht0 fa_X12_9 dX12_help_48 rfl (fun T16 => ?_)
          refine ab_iconst (pc2 := 52) (v := 0) dX12_help_51 rfl ab_k_iconst_0 ?_
          obtain ⟨q17, hq17, hf⟩ := ab_bind hf
          obtain ⟨b18, hf⟩ := ab_guard hf
          refine ab_iald (pc2 := 53) hq17 (T16 q17 hq17) (ab_in_vp b18) dX12_help_52 rfl ?_
          refine ab_iconst (pc2 := 54) (v := 1) dX12_help_53 rfl ab_k_iconst_1 ?_
          refine ab_aload_n (x := _) (pc2 := 55) dX12_help_54 rfl rfl ?_
          refine ab_iload_n (pc2 := 56) dX12_help_55 rfl rfl ?_
          refine ab_iconst (pc2 := 57) (v := 2) dX12_help_56 rfl ab_k_iconst_2 ?_
          obtain ⟨w19, ew19, hf⟩ := ab_bind hf
          refine ab_callV (pc2 := 60) (st := [_, _, _]) rfl ht0 (by decide) (m_X12_get (d := (d + 2)) ht0 ew19) mf_X12_get tw_129 tw_128 ts_X12_get (Or.inl (by decide +kernel)) dX12_help_57 rfl (by omega) (Nat.le_refl _) (Nat.le_refl _) rfl (Nat.le_of_ble_eq_true rfl) (ab_kPi ?_)
          refine ab_ishl (pc2 := 61) dX12_help_60 rfl ?_
          refine ab_iand (pc2 := 62) dX12_help_61 rfl ?_
          refine ab_ior (pc2 := 63) dX12_help_62 rfl ?_
          obtain ⟨v20, ev20, hf⟩ := ab_let_x hf
          refine ab_topI ev20 ?_
          refine ab_istore_n (pc2 := 64) (lo2 := [some (va_rf _), some (.int _), some (.int _)]) dX12_help_63 rfl (by decide) rfl ?_
          refine ab_iinc (pc2 := 67) (v := _ + 1) (lo2 := [some (va_rf _), some (.int _), some (.int _)]) dX12_help_64 rfl rfl rfl (by decide) rfl ?_
          refine ab_goto (tgt := 4) dX12_help_67 (by decide) ?_
          exact ab_weak (ih _ _ _ hf) (ab_leS (ab_leS (ab_leS ab_le0)))
set_option maxHeartbeats 4000000 in
set_option maxRecDepth 100000 in
theorem x_X12_help {d : Nat} {t0 : Nat} {h : ab_HP} {r : Int32} (ht0 : (ab_shp t0).1 = 5) (hf : f_X12_help t0 h = some r) : ab_T mX12_help (d + 3) 0 0 0 0 0 [some (va_rf (some t0)), none, none] [] h (ab_Pi r h) := by
  unfold f_X12_help at hf
  refine ab_iconst (pc2 := 1) (v := 0) dX12_help_0 rfl ab_k_iconst_0 ?_
  refine ab_istore_n (pc2 := 2) (lo2 := [some (va_rf _), some (.int _), none]) dX12_help_1 rfl (by decide) rfl ?_
  refine ab_iconst (pc2 := 3) (v := 0) dX12_help_2 rfl ab_k_iconst_0 ?_
  refine ab_istore_n (pc2 := 4) (lo2 := [some (va_rf _), some (.int _), some (.int _)]) dX12_help_3 rfl (by decide) rfl ?_
  exact ab_weak (x_X12_help_l4 ht0 _ _ _ _ hf) (ab_leS (ab_leS (ab_leS ab_le0)))
set_option maxHeartbeats 4000000 in
set_option maxRecDepth 100000 in
theorem m_X12_help {d : Nat} {t0 : Nat} {h : ab_HP} {r : Int32} (ht0 : (ab_shp t0).1 = 5) (hf : f_X12_help t0 h = some r) : ab_MET mX12_help (d + 3) 0 0 [va_rf (some t0)] h (ab_Pi r h) := ab_met (by decide +kernel) (by decide +kernel) (Nat.le_of_ble_eq_true rfl) rfl (x_X12_help ht0 hf)
set_option maxHeartbeats 4000000 in
set_option maxRecDepth 100000 in
theorem x_X12_two_l224 {d : Nat} {t0 : Nat} {r : (Int32 × ab_HP)} (ht0 : (ab_shp t0).1 = 5) : ∀ (n : Nat) (i5 : Int32) (i7 : Int32) (i8 : Int32) (h : ab_HP), f_X12_two_l224 t0 n i5 i7 i8 h = some r → ab_T mX12_two (d + 7) 0 0 0 0 224 [some (va_rf (some t0)), none, none, none, none, some (.int i5), none, some (.int i7), some (.int i8), none] [] h (ab_Pi r.1 r.2) := by
  intro n
  induction n with
  | zero =>
    intro i5 i7 i8 h hf
    rw [f_X12_two_l224] at hf
    cases hf
  | succ n ih =>
    intro i5 i7 i8 h hf
    rw [f_X12_two_l224] at hf
    refine ab_iload (pc2 := 226) dX12_two_224 rfl rfl ?_
    refine ab_aload_n (x := _) (pc2 := 227) dX12_two_226 rfl rfl ?_
    refine ab_getI (pc2 := 230) rfl ht0 fa_X12_166 (by decide) dX12_two_227 rfl ?_
    refine ab_icmp_ge (tgt := 281) (pc2 := 233) dX12_two_230 (by decide) rfl hf (fun c25 hf => ?_) (fun c25 hf => ?_)
    · refine ab_iload (pc2 := 283) dX12_two_281 rfl rfl ?_
      cases Option.some.inj hf
      exact ab_retI dX12_two_283 (Or.inl rfl) (Nat.le_refl _) (Nat.le_refl _) ⟨rfl, rfl⟩
    · refine ab_iload (pc2 := 235) dX12_two_233 rfl rfl ?_
      refine ab_aload_n (x := _) (pc2 := 236) dX12_two_235 rfl rfl ?_
      refine ab_getR (pc2 := 239) rfl ht0 fa_X12_58 dX12_two_236 rfl (fun T26 => ?_)
      refine ab_iload (pc2 := 241) dX12_two_239 rfl rfl ?_
      obtain ⟨q27, hq27, hf⟩ := ab_bind hf
      obtain ⟨b28, hf⟩ := ab_guard hf
      refine ab_iald (pc2 := 242) hq27 (T26 q27 hq27) (ab_in_vp b28) dX12_two_241 rfl ?_
      refine ab_iload (pc2 := 244) dX12_two_242 rfl rfl ?_
      refine ab_icmp_ne (tgt := 271) (pc2 := 247) dX12_two_244 (by decide) rfl hf (fun c29 hf => ?_) (fun c29 hf => ?_)
      · refine ab_iconst (pc2 := 272) (v := 0) dX12_two_271 rfl ab_k_iconst_0 ?_
        refine ab_iadd (pc2 := 273) dX12_two_272 rfl ?_
        refine ab_istore (pc2 := 275) (lo2 := [some (va_rf _), none, none, none, none, some (.int _), none, some (.int _), some (.int _), none]) dX12_two_273 rfl (by decide) rfl ?_
        refine ab_iinc (pc2 := 278) (v := _ + 1) (lo2 := [some (va_rf _), none, none, none, none, some (.int _), none, some (.int _), some (.int _), none]) dX12_two_275 rfl rfl rfl (by decide) rfl ?_
        refine ab_goto (tgt := 224) dX12_two_278 (by decide) ?_
        exact ab_weak (ih _ _ _ _ hf) (ab_leS (ab_leN (ab_leN (ab_leN (ab_leN (ab_leS (ab_leN (ab_leS (ab_leS (ab_leN ab_le0))))))))))
      · refine ab_aload_n (x := _) (pc2 := 248) dX12_two_247 rfl rfl ?_
        refine ab_iload (pc2 := 250) dX12_two_248 rfl rfl ?_
        obtain ⟨w30, ew30, hf⟩ := ab_bind hf
        refine ab_callV (pc2 := 253) (st := [_]) rfl ht0 (by decide) (m_X12_holds (d := (d + 6)) ht0 ew30) mf_X12_holds tw_212 tw_211 ts_X12_holds (Or.inl (by decide +kernel)) dX12_two_250 rfl (by omega) (Nat.le_refl _) (Nat.le_refl _) rfl (Nat.le_of_ble_eq_true rfl) (ab_kPb fun z31 => ?_)
        refine ab_if_ne (tgt := 267) (pc2 := 256) dX12_two_253 (by decide) rfl hf (fun c32 hf => ?_) (fun c32 hf => ?_)
        · refine ab_iconst (pc2 := 268) (v := 1) dX12_two_267 rfl ab_k_iconst_1 ?_
          refine ab_goto (tgt := 272) dX12_two_268 (by decide) ?_
          refine ab_iadd (pc2 := 273) dX12_two_272 rfl ?_
          refine ab_istore (pc2 := 275) (lo2 := [some (va_rf _), none, none, none, none, some (.int _), none, some (.int _), some (.int _), none]) dX12_two_273 rfl (by decide) rfl ?_
          refine ab_iinc (pc2 := 278) (v := _ + 1) (lo2 := [some (va_rf _), none, none, none, none, some (.int _), none, some (.int _), some (.int _), none]) dX12_two_275 rfl rfl rfl (by decide) rfl ?_
          refine ab_goto (tgt := 224) dX12_two_278 (by decide) ?_
          exact ab_weak (ih _ _ _ _ hf) (ab_leS (ab_leN (ab_leN (ab_leN (ab_leN (ab_leS (ab_leN (ab_leS (ab_leS (ab_leN ab_le0))))))))))
        · refine ab_aload_n (x := _) (pc2 := 257) dX12_two_256 rfl rfl ?_
          refine ab_getR (pc2 := 260) rfl ht0 fa_X12_49 dX12_two_257 rfl (fun T33 => ?_)
          refine ab_iload (pc2 := 262) dX12_two_260 rfl rfl ?_
          obtain ⟨q34, hq34, hf⟩ := ab_bind hf
          obtain ⟨b35, hf⟩ := ab_guard hf
          refine ab_iald (pc2 := 263) hq34 (T33 q34 hq34) (ab_in_vp b35) dX12_two_262 rfl ?_
          refine ab_iconst (pc2 := 264) (v := 4) dX12_two_263 rfl ab_k_iconst_4 ?_
          refine ab_icmp_ne (tgt := 271) (pc2 := 267) dX12_two_264 (by decide) rfl hf (fun c36 hf => ?_) (fun c36 hf => ?_)
          · refine ab_iconst (pc2 := 272) (v := 0) dX12_two_271 rfl ab_k_iconst_0 ?_
            refine ab_iadd (pc2 := 273) dX12_two_272 rfl ?_
            refine ab_istore (pc2 := 275) (lo2 := [some (va_rf _), none, none, none, none, some (.int _), none, some (.int _), some (.int _), none]) dX12_two_273 rfl (by decide) rfl ?_
            refine ab_iinc (pc2 := 278) (v := _ + 1) (lo2 := [some (va_rf _), none, none, none, none, some (.int _), none, some (.int _), some (.int _), none]) dX12_two_275 rfl rfl rfl (by decide) rfl ?_
            refine ab_goto (tgt := 224) dX12_two_278 (by decide) ?_
            exact ab_weak (ih _ _ _ _ hf) (ab_leS (ab_leN (ab_leN (ab_leN (ab_leN (ab_leS (ab_leN (ab_leS (ab_leS (ab_leN ab_le0))))))))))
          · refine ab_iconst (pc2 := 268) (v := 1) dX12_two_267 rfl ab_k_iconst_1 ?_
            refine ab_goto (tgt := 272) dX12_two_268 (by decide) ?_
            refine ab_iadd (pc2 := 273) dX12_two_272 rfl ?_
            refine ab_istore (pc2 := 275) (lo2 := [some (va_rf _), none, none, none, none, some (.int _), none, some (.int _), some (.int _), none]) dX12_two_273 rfl (by decide) rfl ?_
            refine ab_iinc (pc2 := 278) (v := _ + 1) (lo2 := [some (va_rf _), none, none, none, none, some (.int _), none, some (.int _), some (.int _), none]) dX12_two_275 rfl rfl rfl (by decide) rfl ?_
            refine ab_goto (tgt := 224) dX12_two_278 (by decide) ?_
            exact ab_weak (ih _ _ _ _ hf) (ab_leS (ab_leN (ab_leN (ab_leN (ab_leN (ab_leS (ab_leN (ab_leS (ab_leS (ab_leN ab_le0))))))))))
set_option maxHeartbeats 4000000 in
set_option maxRecDepth 100000 in
theorem x_X12_two_l92 {d : Nat} {k82 : Int32 → Int32 → Int32 → Int32 → Int32 → Int32 → ab_HP → Option (Int32 × ab_HP)} {t0 : Nat} {r : (Int32 × ab_HP)} (ht0 : (ab_shp t0).1 = 5) (hk82 : ∀ (i1 : Int32) (i2 : Int32) (i3 : Int32) (i4 : Int32) (i5 : Int32) (i7 : Int32) (h : ab_HP), k82 i1 i2 i3 i4 i5 i7 h = some r → ab_T mX12_two (d + 7) 0 0 0 0 82 [some (va_rf (some t0)), some (.int i1), some (.int i2), some (.int i3), some (.int i4), some (.int i5), none, some (.int i7), none, none] [] h (ab_Pi r.1 r.2)) : ∀ (n : Nat) (i1 : Int32) (i2 : Int32) (i3 : Int32) (i4 : Int32) (i5 : Int32) (i7 : Int32) (i8 : Int32) (h : ab_HP), f_X12_two_l92 k82 t0 n i1 i2 i3 i4 i5 i7 i8 h = some r → ab_T mX12_two (d + 7) 0 0 0 0 92 [some (va_rf (some t0)), some (.int i1), some (.int i2), some (.int i3), some (.int i4), some (.int i5), none, some (.int i7), some (.int i8), none] [] h (ab_Pi r.1 r.2) := by
  intro n
  induction n with
  | zero =>
    intro i1 i2 i3 i4 i5 i7 i8 h hf
    rw [f_X12_two_l92] at hf
    cases hf
  | succ n ih =>
    intro i1 i2 i3 i4 i5 i7 i8 h hf
    rw [f_X12_two_l92] at hf
    refine ab_iload (pc2 := 94) dX12_two_92 rfl rfl ?_
    refine ab_iconst (pc2 := 95) (v := 2) dX12_two_94 rfl ab_k_iconst_2 ?_
    refine ab_icmp_ge (tgt := 204) (pc2 := 98) dX12_two_95 (by decide) rfl hf (fun c37 hf => ?_) (fun c37 hf => ?_)
    · refine ab_iinc (pc2 := 207) (v := _ + 1) (lo2 := [some (va_rf _), some (.int _), some (.int _), some (.int _), some (.int _), some (.int _), none, some (.int _), some (.int _), none]) dX12_two_204 rfl rfl rfl (by decide) rfl ?_
      refine ab_goto (tgt := 82) dX12_two_207 (by decide) ?_
      exact ab_weak (hk82 _ _ _ _ _ _ _ hf) (ab_leS (ab_leS (ab_leS (ab_leS (ab_leS (ab_leS (ab_leN (ab_leS (ab_leN (ab_leN ab_le0))))))))))
    · refine ab_iload (pc2 := 100) dX12_two_98 rfl rfl ?_
      refine ab_if_ne (tgt := 107) (pc2 := 103) dX12_two_100 (by decide) rfl hf (fun c38 hf => ?_) (fun c38 hf => ?_)
      · refine ab_iload_n (pc2 := 108) dX12_two_107 rfl rfl ?_
        refine ab_istore (pc2 := 110) (lo2 := [some (va_rf _), some (.int _), some (.int _), some (.int _), some (.int _), some (.int _), none, some (.int _), some (.int _), some (.int _)]) dX12_two_108 rfl (by decide) rfl ?_
        refine ab_iload (pc2 := 112) dX12_two_110 rfl rfl ?_
        refine ab_aload_n (x := _) (pc2 := 113) dX12_two_112 rfl rfl ?_
        refine ab_getR (pc2 := 116) rfl ht0 fa_X12_25 dX12_two_113 rfl (fun T39 => ?_)
        refine ab_iload (pc2 := 118) dX12_two_116 rfl rfl ?_
        obtain ⟨q40, hq40, hf⟩ := ab_bind hf
        obtain ⟨b41, hf⟩ := ab_guard hf
        refine ab_iald (pc2 := 119) hq40 (T39 q40 hq40) (ab_in_vp b41) dX12_two_118 rfl ?_
        refine ab_icmp_lt (tgt := 125) (pc2 := 122) dX12_two_119 (by decide) rfl hf (fun c42 hf => ?_) (fun c42 hf => ?_)
        · refine ab_aload_n (x := _) (pc2 := 126) dX12_two_125 rfl rfl ?_
          refine ab_getR (pc2 := 129) rfl ht0 fa_X12_40 dX12_two_126 rfl (fun T43 => ?_)
          refine ab_aload_n (x := _) (pc2 := 130) dX12_two_129 rfl rfl ?_
          refine ab_getI (pc2 := 133) rfl ht0 fa_X12_166 (by decide) dX12_two_130 rfl ?_
          refine ab_aload_n (x := _) (pc2 := 134) dX12_two_133 rfl rfl ?_
          refine ab_getR (pc2 := 137) rfl ht0 fa_X12_28 dX12_two_134 rfl (fun T44 => ?_)
          refine ab_bipush (pc2 := 139) (v := 100) dX12_two_137 rfl ab_k_bipush_100 ?_
          refine ab_iload (pc2 := 141) dX12_two_139 rfl rfl ?_
          refine ab_imul (pc2 := 142) dX12_two_141 rfl ?_
          refine ab_iload (pc2 := 144) dX12_two_142 rfl rfl ?_
          refine ab_iadd (pc2 := 145) dX12_two_144 rfl ?_
          obtain ⟨q45, hq45, hf⟩ := ab_bind hf
          obtain ⟨b46, hf⟩ := ab_guard hf
          refine ab_iald (pc2 := 146) hq45 (T44 q45 hq45) (ab_in_vp b46) dX12_two_145 rfl ?_
          obtain ⟨q47, hq47, hf⟩ := ab_bind hf
          obtain ⟨b48, hf⟩ := ab_guard hf
          obtain ⟨h49, eh49, hf⟩ := ab_let_x hf
          refine ab_iast (pc2 := 147) hq47 (T43 q47 hq47) (ab_in_vp b48) dX12_two_146 rfl ?_
          refine ab_topH eh49 ?_
          refine ab_aload_n (x := _) (pc2 := 148) dX12_two_147 rfl rfl ?_
          refine ab_getR (pc2 := 151) rfl ht0 fa_X12_58 dX12_two_148 rfl (fun T50 => ?_)
          refine ab_aload_n (x := _) (pc2 := 152) dX12_two_151 rfl rfl ?_
          refine ab_getI (pc2 := 155) rfl ht0 fa_X12_166 (by decide) dX12_two_152 rfl ?_
          refine ab_iload (pc2 := 157) dX12_two_155 rfl rfl ?_
          obtain ⟨q51, hq51, hf⟩ := ab_bind hf
          obtain ⟨b52, hf⟩ := ab_guard hf
          obtain ⟨h53, eh53, hf⟩ := ab_let_x hf
          refine ab_iast (pc2 := 158) hq51 (T50 q51 hq51) (ab_in_vp b52) dX12_two_157 rfl ?_
          refine ab_topH eh53 ?_
          refine ab_aload_n (x := _) (pc2 := 159) dX12_two_158 rfl rfl ?_
          refine ab_dup (pc2 := 160) dX12_two_159 rfl (ab_rf1 _) ?_
          refine ab_getI (pc2 := 163) rfl ht0 fa_X12_169 (by decide) dX12_two_160 rfl ?_
          refine ab_iload (pc2 := 165) dX12_two_163 rfl rfl ?_
          refine ab_if_ne (tgt := 172) (pc2 := 168) dX12_two_165 (by decide) rfl hf (fun c54 hf => ?_) (fun c54 hf => ?_)
          · refine ab_iload (pc2 := 174) dX12_two_172 rfl rfl ?_
            refine ab_iload (pc2 := 176) dX12_two_174 rfl rfl ?_
            refine ab_ishr (pc2 := 177) dX12_two_176 rfl ?_
            refine ab_iconst (pc2 := 178) (v := 1) dX12_two_177 rfl ab_k_iconst_1 ?_
            refine ab_iand (pc2 := 179) dX12_two_178 rfl ?_
            refine ab_aload_n (x := _) (pc2 := 180) dX12_two_179 rfl rfl ?_
            refine ab_getI (pc2 := 183) rfl ht0 fa_X12_166 (by decide) dX12_two_180 rfl ?_
            refine ab_ishl (pc2 := 184) dX12_two_183 rfl ?_
            refine ab_ior (pc2 := 185) dX12_two_184 rfl ?_
            obtain ⟨h55, eh55, hf⟩ := ab_let_x hf
            refine ab_putI (pc2 := 188) rfl ht0 fa_X12_169 (Or.inl rfl) (fun z => by cases z) dX12_two_185 rfl ?_
            refine ab_topH eh55 ?_
            refine ab_aload_n (x := _) (pc2 := 189) dX12_two_188 rfl rfl ?_
            refine ab_dup (pc2 := 190) dX12_two_189 rfl (ab_rf1 _) ?_
            refine ab_getI (pc2 := 193) rfl ht0 fa_X12_166 (by decide) dX12_two_190 rfl ?_
            refine ab_iconst (pc2 := 194) (v := 1) dX12_two_193 rfl ab_k_iconst_1 ?_
            refine ab_iadd (pc2 := 195) dX12_two_194 rfl ?_
            obtain ⟨h56, eh56, hf⟩ := ab_let_x hf
            refine ab_putI (pc2 := 198) rfl ht0 fa_X12_166 (Or.inl rfl) (fun z => by cases z) dX12_two_195 rfl ?_
            refine ab_topH eh56 ?_
            refine ab_iinc (pc2 := 201) (v := _ + 1) (lo2 := [some (va_rf _), some (.int _), some (.int _), some (.int _), some (.int _), some (.int _), none, some (.int _), some (.int _), some (.int _)]) dX12_two_198 rfl rfl rfl (by decide) rfl ?_
            refine ab_goto (tgt := 92) dX12_two_201 (by decide) ?_
            exact ab_weak (ih _ _ _ _ _ _ _ _ hf) (ab_leS (ab_leS (ab_leS (ab_leS (ab_leS (ab_leS (ab_leN (ab_leS (ab_leS (ab_leN ab_le0))))))))))
          · refine ab_iload_n (pc2 := 169) dX12_two_168 rfl rfl ?_
            refine ab_goto (tgt := 174) dX12_two_169 (by decide) ?_
            refine ab_iload (pc2 := 176) dX12_two_174 rfl rfl ?_
            refine ab_ishr (pc2 := 177) dX12_two_176 rfl ?_
            refine ab_iconst (pc2 := 178) (v := 1) dX12_two_177 rfl ab_k_iconst_1 ?_
            refine ab_iand (pc2 := 179) dX12_two_178 rfl ?_
            refine ab_aload_n (x := _) (pc2 := 180) dX12_two_179 rfl rfl ?_
            refine ab_getI (pc2 := 183) rfl ht0 fa_X12_166 (by decide) dX12_two_180 rfl ?_
            refine ab_ishl (pc2 := 184) dX12_two_183 rfl ?_
            refine ab_ior (pc2 := 185) dX12_two_184 rfl ?_
            obtain ⟨h57, eh57, hf⟩ := ab_let_x hf
            refine ab_putI (pc2 := 188) rfl ht0 fa_X12_169 (Or.inl rfl) (fun z => by cases z) dX12_two_185 rfl ?_
            refine ab_topH eh57 ?_
            refine ab_aload_n (x := _) (pc2 := 189) dX12_two_188 rfl rfl ?_
            refine ab_dup (pc2 := 190) dX12_two_189 rfl (ab_rf1 _) ?_
            refine ab_getI (pc2 := 193) rfl ht0 fa_X12_166 (by decide) dX12_two_190 rfl ?_
            refine ab_iconst (pc2 := 194) (v := 1) dX12_two_193 rfl ab_k_iconst_1 ?_
            refine ab_iadd (pc2 := 195) dX12_two_194 rfl ?_
            obtain ⟨h58, eh58, hf⟩ := ab_let_x hf
            refine ab_putI (pc2 := 198) rfl ht0 fa_X12_166 (Or.inl rfl) (fun z => by cases z) dX12_two_195 rfl ?_
            refine ab_topH eh58 ?_
            refine ab_iinc (pc2 := 201) (v := _ + 1) (lo2 := [some (va_rf _), some (.int _), some (.int _), some (.int _), some (.int _), some (.int _), none, some (.int _), some (.int _), some (.int _)]) dX12_two_198 rfl rfl rfl (by decide) rfl ?_
            refine ab_goto (tgt := 92) dX12_two_201 (by decide) ?_
            exact ab_weak (ih _ _ _ _ _ _ _ _ hf) (ab_leS (ab_leS (ab_leS (ab_leS (ab_leS (ab_leS (ab_leN (ab_leS (ab_leS (ab_leN ab_le0))))))))))
        · refine ab_goto (tgt := 198) dX12_two_122 (by decide) ?_
          refine ab_iinc (pc2 := 201) (v := _ + 1) (lo2 := [some (va_rf _), some (.int _), some (.int _), some (.int _), some (.int _), some (.int _), none, some (.int _), some (.int _), some (.int _)]) dX12_two_198 rfl rfl rfl (by decide) rfl ?_
          refine ab_goto (tgt := 92) dX12_two_201 (by decide) ?_
          exact ab_weak (ih _ _ _ _ _ _ _ _ hf) (ab_leS (ab_leS (ab_leS (ab_leS (ab_leS (ab_leS (ab_leN (ab_leS (ab_leS (ab_leN ab_le0))))))))))
      · refine ab_iload_n (pc2 := 104) dX12_two_103 rfl rfl ?_
        refine ab_goto (tgt := 108) dX12_two_104 (by decide) ?_
        refine ab_istore (pc2 := 110) (lo2 := [some (va_rf _), some (.int _), some (.int _), some (.int _), some (.int _), some (.int _), none, some (.int _), some (.int _), some (.int _)]) dX12_two_108 rfl (by decide) rfl ?_
        refine ab_iload (pc2 := 112) dX12_two_110 rfl rfl ?_
        refine ab_aload_n (x := _) (pc2 := 113) dX12_two_112 rfl rfl ?_
        refine ab_getR (pc2 := 116) rfl ht0 fa_X12_25 dX12_two_113 rfl (fun T59 => ?_)
        refine ab_iload (pc2 := 118) dX12_two_116 rfl rfl ?_
        obtain ⟨q60, hq60, hf⟩ := ab_bind hf
        obtain ⟨b61, hf⟩ := ab_guard hf
        refine ab_iald (pc2 := 119) hq60 (T59 q60 hq60) (ab_in_vp b61) dX12_two_118 rfl ?_
        refine ab_icmp_lt (tgt := 125) (pc2 := 122) dX12_two_119 (by decide) rfl hf (fun c62 hf => ?_) (fun c62 hf => ?_)
        · refine ab_aload_n (x := _) (pc2 := 126) dX12_two_125 rfl rfl ?_
          refine ab_getR (pc2 := 129) rfl ht0 fa_X12_40 dX12_two_126 rfl (fun T63 => ?_)
          refine ab_aload_n (x := _) (pc2 := 130) dX12_two_129 rfl rfl ?_
          refine ab_getI (pc2 := 133) rfl ht0 fa_X12_166 (by decide) dX12_two_130 rfl ?_
          refine ab_aload_n (x := _) (pc2 := 134) dX12_two_133 rfl rfl ?_
          refine ab_getR (pc2 := 137) rfl ht0 fa_X12_28 dX12_two_134 rfl (fun T64 => ?_)
          refine ab_bipush (pc2 := 139) (v := 100) dX12_two_137 rfl ab_k_bipush_100 ?_
          refine ab_iload (pc2 := 141) dX12_two_139 rfl rfl ?_
          refine ab_imul (pc2 := 142) dX12_two_141 rfl ?_
          refine ab_iload (pc2 := 144) dX12_two_142 rfl rfl ?_
          refine ab_iadd (pc2 := 145) dX12_two_144 rfl ?_
          obtain ⟨q65, hq65, hf⟩ := ab_bind hf
          obtain ⟨b66, hf⟩ := ab_guard hf
          refine ab_iald (pc2 := 146) hq65 (T64 q65 hq65) (ab_in_vp b66) dX12_two_145 rfl ?_
          obtain ⟨q67, hq67, hf⟩ := ab_bind hf
          obtain ⟨b68, hf⟩ := ab_guard hf
          obtain ⟨h69, eh69, hf⟩ := ab_let_x hf
          refine ab_iast (pc2 := 147) hq67 (T63 q67 hq67) (ab_in_vp b68) dX12_two_146 rfl ?_
          refine ab_topH eh69 ?_
          refine ab_aload_n (x := _) (pc2 := 148) dX12_two_147 rfl rfl ?_
          refine ab_getR (pc2 := 151) rfl ht0 fa_X12_58 dX12_two_148 rfl (fun T70 => ?_)
          refine ab_aload_n (x := _) (pc2 := 152) dX12_two_151 rfl rfl ?_
          refine ab_getI (pc2 := 155) rfl ht0 fa_X12_166 (by decide) dX12_two_152 rfl ?_
          refine ab_iload (pc2 := 157) dX12_two_155 rfl rfl ?_
          obtain ⟨q71, hq71, hf⟩ := ab_bind hf
          obtain ⟨b72, hf⟩ := ab_guard hf
          obtain ⟨h73, eh73, hf⟩ := ab_let_x hf
          refine ab_iast (pc2 := 158) hq71 (T70 q71 hq71) (ab_in_vp b72) dX12_two_157 rfl ?_
          refine ab_topH eh73 ?_
          refine ab_aload_n (x := _) (pc2 := 159) dX12_two_158 rfl rfl ?_
          refine ab_dup (pc2 := 160) dX12_two_159 rfl (ab_rf1 _) ?_
          refine ab_getI (pc2 := 163) rfl ht0 fa_X12_169 (by decide) dX12_two_160 rfl ?_
          refine ab_iload (pc2 := 165) dX12_two_163 rfl rfl ?_
          refine ab_if_ne (tgt := 172) (pc2 := 168) dX12_two_165 (by decide) rfl hf (fun c74 hf => ?_) (fun c74 hf => ?_)
          · refine ab_iload (pc2 := 174) dX12_two_172 rfl rfl ?_
            refine ab_iload (pc2 := 176) dX12_two_174 rfl rfl ?_
            refine ab_ishr (pc2 := 177) dX12_two_176 rfl ?_
            refine ab_iconst (pc2 := 178) (v := 1) dX12_two_177 rfl ab_k_iconst_1 ?_
            refine ab_iand (pc2 := 179) dX12_two_178 rfl ?_
            refine ab_aload_n (x := _) (pc2 := 180) dX12_two_179 rfl rfl ?_
            refine ab_getI (pc2 := 183) rfl ht0 fa_X12_166 (by decide) dX12_two_180 rfl ?_
            refine ab_ishl (pc2 := 184) dX12_two_183 rfl ?_
            refine ab_ior (pc2 := 185) dX12_two_184 rfl ?_
            obtain ⟨h75, eh75, hf⟩ := ab_let_x hf
            refine ab_putI (pc2 := 188) rfl ht0 fa_X12_169 (Or.inl rfl) (fun z => by cases z) dX12_two_185 rfl ?_
            refine ab_topH eh75 ?_
            refine ab_aload_n (x := _) (pc2 := 189) dX12_two_188 rfl rfl ?_
            refine ab_dup (pc2 := 190) dX12_two_189 rfl (ab_rf1 _) ?_
            refine ab_getI (pc2 := 193) rfl ht0 fa_X12_166 (by decide) dX12_two_190 rfl ?_
            refine ab_iconst (pc2 := 194) (v := 1) dX12_two_193 rfl ab_k_iconst_1 ?_
            refine ab_iadd (pc2 := 195) dX12_two_194 rfl ?_
            obtain ⟨h76, eh76, hf⟩ := ab_let_x hf
            refine ab_putI (pc2 := 198) rfl ht0 fa_X12_166 (Or.inl rfl) (fun z => by cases z) dX12_two_195 rfl ?_
            refine ab_topH eh76 ?_
            refine ab_iinc (pc2 := 201) (v := _ + 1) (lo2 := [some (va_rf _), some (.int _), some (.int _), some (.int _), some (.int _), some (.int _), none, some (.int _), some (.int _), some (.int _)]) dX12_two_198 rfl rfl rfl (by decide) rfl ?_
            refine ab_goto (tgt := 92) dX12_two_201 (by decide) ?_
            exact ab_weak (ih _ _ _ _ _ _ _ _ hf) (ab_leS (ab_leS (ab_leS (ab_leS (ab_leS (ab_leS (ab_leN (ab_leS (ab_leS (ab_leN ab_le0))))))))))
          · refine ab_iload_n (pc2 := 169) dX12_two_168 rfl rfl ?_
            refine ab_goto (tgt := 174) dX12_two_169 (by decide) ?_
            refine ab_iload (pc2 := 176) dX12_two_174 rfl rfl ?_
            refine ab_ishr (pc2 := 177) dX12_two_176 rfl ?_
            refine ab_iconst (pc2 := 178) (v := 1) dX12_two_177 rfl ab_k_iconst_1 ?_
            refine ab_iand (pc2 := 179) dX12_two_178 rfl ?_
            refine ab_aload_n (x := _) (pc2 := 180) dX12_two_179 rfl rfl ?_
            refine ab_getI (pc2 := 183) rfl ht0 fa_X12_166 (by decide) dX12_two_180 rfl ?_
            refine ab_ishl (pc2 := 184) dX12_two_183 rfl ?_
            refine ab_ior (pc2 := 185) dX12_two_184 rfl ?_
            obtain ⟨h77, eh77, hf⟩ := ab_let_x hf
            refine ab_putI (pc2 := 188) rfl ht0 fa_X12_169 (Or.inl rfl) (fun z => by cases z) dX12_two_185 rfl ?_
            refine ab_topH eh77 ?_
            refine ab_aload_n (x := _) (pc2 := 189) dX12_two_188 rfl rfl ?_
            refine ab_dup (pc2 := 190) dX12_two_189 rfl (ab_rf1 _) ?_
            refine ab_getI (pc2 := 193) rfl ht0 fa_X12_166 (by decide) dX12_two_190 rfl ?_
            refine ab_iconst (pc2 := 194) (v := 1) dX12_two_193 rfl ab_k_iconst_1 ?_
            refine ab_iadd (pc2 := 195) dX12_two_194 rfl ?_
            obtain ⟨h78, eh78, hf⟩ := ab_let_x hf
            refine ab_putI (pc2 := 198) rfl ht0 fa_X12_166 (Or.inl rfl) (fun z => by cases z) dX12_two_195 rfl ?_
            refine ab_topH eh78 ?_
            refine ab_iinc (pc2 := 201) (v := _ + 1) (lo2 := [some (va_rf _), some (.int _), some (.int _), some (.int _), some (.int _), some (.int _), none, some (.int _), some (.int _), some (.int _)]) dX12_two_198 rfl rfl rfl (by decide) rfl ?_
            refine ab_goto (tgt := 92) dX12_two_201 (by decide) ?_
            exact ab_weak (ih _ _ _ _ _ _ _ _ hf) (ab_leS (ab_leS (ab_leS (ab_leS (ab_leS (ab_leS (ab_leN (ab_leS (ab_leS (ab_leN ab_le0))))))))))
        · refine ab_goto (tgt := 198) dX12_two_122 (by decide) ?_
          refine ab_iinc (pc2 := 201) (v := _ + 1) (lo2 := [some (va_rf _), some (.int _), some (.int _), some (.int _), some (.int _), some (.int _), none, some (.int _), some (.int _), some (.int _)]) dX12_two_198 rfl rfl rfl (by decide) rfl ?_
          refine ab_goto (tgt := 92) dX12_two_201 (by decide) ?_
          exact ab_weak (ih _ _ _ _ _ _ _ _ hf) (ab_leS (ab_leS (ab_leS (ab_leS (ab_leS (ab_leS (ab_leN (ab_leS (ab_leS (ab_leN ab_le0))))))))))
set_option maxHeartbeats 4000000 in
set_option maxRecDepth 100000 in
theorem x_X12_two_l82 {d : Nat} {t0 : Nat} {r : (Int32 × ab_HP)} (ht0 : (ab_shp t0).1 = 5) : ∀ (n : Nat) (i1 : Int32) (i2 : Int32) (i3 : Int32) (i4 : Int32) (i5 : Int32) (i7 : Int32) (h : ab_HP), f_X12_two_l82 t0 n i1 i2 i3 i4 i5 i7 h = some r → ab_T mX12_two (d + 7) 0 0 0 0 82 [some (va_rf (some t0)), some (.int i1), some (.int i2), some (.int i3), some (.int i4), some (.int i5), none, some (.int i7), none, none] [] h (ab_Pi r.1 r.2) := by
  intro n
  induction n with
  | zero =>
    intro i1 i2 i3 i4 i5 i7 h hf
    rw [f_X12_two_l82] at hf
    cases hf
  | succ n ih =>
    intro i1 i2 i3 i4 i5 i7 h hf
    rw [f_X12_two_l82] at hf
    refine ab_iload (pc2 := 84) dX12_two_82 rfl rfl ?_
    refine ab_bipush (pc2 := 86) (v := 8) dX12_two_84 rfl ab_k_bipush_8 ?_
    refine ab_icmp_ge (tgt := 210) (pc2 := 89) dX12_two_86 (by decide) rfl hf (fun c22 hf => ?_) (fun c22 hf => ?_)
    · refine ab_aload_n (x := _) (pc2 := 211) dX12_two_210 rfl rfl ?_
      obtain ⟨w23, ew23, hf⟩ := ab_bind hf
      refine ab_callV (pc2 := 214) (st := []) rfl ht0 (by decide) (m_X12_begins (d := (d + 6)) ht0 ew23) mf_X12_begins tw_206 tw_205 ts_X12_begins (Or.inl (by decide +kernel)) dX12_two_211 rfl (by omega) (Nat.le_refl _) (Nat.le_refl _) rfl (Nat.le_of_ble_eq_true rfl) (ab_kPv ?_)
      refine ab_aload_n (x := _) (pc2 := 215) dX12_two_214 rfl rfl ?_
      obtain ⟨w24, ew24, hf⟩ := ab_bind hf
      refine ab_callV (pc2 := 218) (st := []) rfl ht0 (by decide) (m_X12_pairOf (d := (d + 0)) ht0 ew24) mf_X12_pairOf tw_230 tw_229 ts_X12_pairOf (Or.inl (by decide +kernel)) dX12_two_215 rfl (by omega) (Nat.le_refl _) (Nat.le_refl _) rfl (Nat.le_of_ble_eq_true rfl) (ab_kPv ?_)
      refine ab_iconst (pc2 := 219) (v := 0) dX12_two_218 rfl ab_k_iconst_0 ?_
      refine ab_istore (pc2 := 221) (lo2 := [some (va_rf _), some (.int _), some (.int _), some (.int _), some (.int _), some (.int _), none, some (.int _), none, none]) dX12_two_219 rfl (by decide) rfl ?_
      refine ab_iconst (pc2 := 222) (v := 0) dX12_two_221 rfl ab_k_iconst_0 ?_
      refine ab_istore (pc2 := 224) (lo2 := [some (va_rf _), some (.int _), some (.int _), some (.int _), some (.int _), some (.int _), none, some (.int _), some (.int _), none]) dX12_two_222 rfl (by decide) rfl ?_
      exact ab_weak (x_X12_two_l224 ht0 _ _ _ _ _ hf) (ab_leS (ab_leN (ab_leN (ab_leN (ab_leN (ab_leS (ab_leN (ab_leS (ab_leS (ab_leN ab_le0))))))))))
    · refine ab_iconst (pc2 := 90) (v := 0) dX12_two_89 rfl ab_k_iconst_0 ?_
      refine ab_istore (pc2 := 92) (lo2 := [some (va_rf _), some (.int _), some (.int _), some (.int _), some (.int _), some (.int _), none, some (.int _), some (.int _), none]) dX12_two_90 rfl (by decide) rfl ?_
      exact ab_weak (x_X12_two_l92 ht0 ih _ _ _ _ _ _ _ _ _ hf) (ab_leS (ab_leS (ab_leS (ab_leS (ab_leS (ab_leS (ab_leN (ab_leS (ab_leS (ab_leN ab_le0))))))))))
set_option maxHeartbeats 4000000 in
set_option maxRecDepth 100000 in
theorem x_X12_two_b61 {d : Nat} {t0 : Nat} {i1 : Int32} {i2 : Int32} {i3 : Int32} {i4 : Int32} {i5 : Int32} {i6 : Int32} {h : ab_HP} {r : (Int32 × ab_HP)} (ht0 : (ab_shp t0).1 = 5) (hf : f_X12_two_b61 t0 i1 i2 i3 i4 i5 i6 h = some r) : ab_T mX12_two (d + 7) 0 0 0 0 61 [some (va_rf (some t0)), some (.int i1), some (.int i2), some (.int i3), some (.int i4), some (.int i5), some (.int i6), none, none, none] [] h (ab_Pi r.1 r.2) := by
  unfold f_X12_two_b61 at hf
  refine ab_iload (pc2 := 63) dX12_two_61 rfl rfl ?_
  refine ab_if_eq (tgt := 69) (pc2 := 66) dX12_two_63 (by decide) rfl hf (fun c19 hf => ?_) (fun c19 hf => ?_)
  · refine ab_aload_n (x := _) (pc2 := 70) dX12_two_69 rfl rfl ?_
    refine ab_iconst (pc2 := 71) (v := 0) dX12_two_70 rfl ab_k_iconst_0 ?_
    obtain ⟨h20, eh20, hf⟩ := ab_let_x hf
    refine ab_putI (pc2 := 74) rfl ht0 fa_X12_166 (Or.inl rfl) (fun z => by cases z) dX12_two_71 rfl ?_
    refine ab_topH eh20 ?_
    refine ab_aload_n (x := _) (pc2 := 75) dX12_two_74 rfl rfl ?_
    refine ab_iconst (pc2 := 76) (v := 0) dX12_two_75 rfl ab_k_iconst_0 ?_
    obtain ⟨h21, eh21, hf⟩ := ab_let_x hf
    refine ab_putI (pc2 := 79) rfl ht0 fa_X12_169 (Or.inl rfl) (fun z => by cases z) dX12_two_76 rfl ?_
    refine ab_topH eh21 ?_
    refine ab_iconst (pc2 := 80) (v := 0) dX12_two_79 rfl ab_k_iconst_0 ?_
    refine ab_istore (pc2 := 82) (lo2 := [some (va_rf _), some (.int _), some (.int _), some (.int _), some (.int _), some (.int _), some (.int _), some (.int _), none, none]) dX12_two_80 rfl (by decide) rfl ?_
    exact ab_weak (x_X12_two_l82 ht0 _ _ _ _ _ _ _ _ hf) (ab_leS (ab_leS (ab_leS (ab_leS (ab_leS (ab_leS (ab_leN (ab_leS (ab_leN (ab_leN ab_le0))))))))))
  · refine ab_iload (pc2 := 68) dX12_two_66 rfl rfl ?_
    cases Option.some.inj hf
    exact ab_retI dX12_two_68 (Or.inl rfl) (Nat.le_refl _) (Nat.le_refl _) ⟨rfl, rfl⟩
set_option maxHeartbeats 4000000 in
set_option maxRecDepth 100000 in
theorem x_X12_two {d : Nat} {t0 : Nat} {i1 : Int32} {i2 : Int32} {i3 : Int32} {i4 : Int32} {i5 : Int32} {h : ab_HP} {r : (Int32 × ab_HP)} (ht0 : (ab_shp t0).1 = 5) (hf : f_X12_two t0 i1 i2 i3 i4 i5 h = some r) : ab_T mX12_two (d + 7) 0 0 0 0 0 [some (va_rf (some t0)), some (.int i1), some (.int i2), some (.int i3), some (.int i4), some (.int i5), none, none, none, none] [] h (ab_Pi r.1 r.2) := by
  unfold f_X12_two at hf
  refine ab_iload_n (pc2 := 1) dX12_two_0 rfl rfl ?_
  obtain ⟨w1, ew1, hf⟩ := ab_bind hf
  refine ab_callS (pc2 := 4) (st := []) (m_X12_isShelf (d := (d + 5)) ew1) mf_X12_isShelf tw_103 tw_104 dX12_two_1 rfl (by omega) (Nat.le_refl _) (Nat.le_refl _) rfl (Nat.le_of_ble_eq_true rfl) (ab_kPb fun z2 => ?_)
  refine ab_if_eq (tgt := 40) (pc2 := 7) dX12_two_4 (by decide) rfl hf (fun c3 hf => ?_) (fun c3 hf => ?_)
  · refine ab_iconst (pc2 := 41) (v := (-1)) dX12_two_40 rfl ab_k_iconst_m1 ?_
    cases Option.some.inj hf
    exact ab_retI dX12_two_41 (Or.inl rfl) (Nat.le_refl _) (Nat.le_refl _) ⟨rfl, rfl⟩
  · refine ab_iload_n (pc2 := 8) dX12_two_7 rfl rfl ?_
    obtain ⟨w4, ew4, hf⟩ := ab_bind hf
    refine ab_callS (pc2 := 11) (st := []) (m_X12_isShelf (d := (d + 5)) ew4) mf_X12_isShelf tw_103 tw_104 dX12_two_8 rfl (by omega) (Nat.le_refl _) (Nat.le_refl _) rfl (Nat.le_of_ble_eq_true rfl) (ab_kPb fun z5 => ?_)
    refine ab_if_eq (tgt := 40) (pc2 := 14) dX12_two_11 (by decide) rfl hf (fun c6 hf => ?_) (fun c6 hf => ?_)
    · refine ab_iconst (pc2 := 41) (v := (-1)) dX12_two_40 rfl ab_k_iconst_m1 ?_
      cases Option.some.inj hf
      exact ab_retI dX12_two_41 (Or.inl rfl) (Nat.le_refl _) (Nat.le_refl _) ⟨rfl, rfl⟩
    · refine ab_iload_n (pc2 := 15) dX12_two_14 rfl rfl ?_
      obtain ⟨w7, ew7, hf⟩ := ab_bind hf
      refine ab_callS (pc2 := 18) (st := []) (m_X12_areNails (d := (d + 5)) ew7) mf_X12_areNails tw_223 tw_224 dX12_two_15 rfl (by omega) (Nat.le_refl _) (Nat.le_refl _) rfl (Nat.le_of_ble_eq_true rfl) (ab_kPb fun z8 => ?_)
      refine ab_if_eq (tgt := 40) (pc2 := 21) dX12_two_18 (by decide) rfl hf (fun c9 hf => ?_) (fun c9 hf => ?_)
      · refine ab_iconst (pc2 := 41) (v := (-1)) dX12_two_40 rfl ab_k_iconst_m1 ?_
        cases Option.some.inj hf
        exact ab_retI dX12_two_41 (Or.inl rfl) (Nat.le_refl _) (Nat.le_refl _) ⟨rfl, rfl⟩
      · refine ab_iload (pc2 := 23) dX12_two_21 rfl rfl ?_
        obtain ⟨w10, ew10, hf⟩ := ab_bind hf
        refine ab_callS (pc2 := 26) (st := []) (m_X12_areNails (d := (d + 5)) ew10) mf_X12_areNails tw_223 tw_224 dX12_two_23 rfl (by omega) (Nat.le_refl _) (Nat.le_refl _) rfl (Nat.le_of_ble_eq_true rfl) (ab_kPb fun z11 => ?_)
        refine ab_if_eq (tgt := 40) (pc2 := 29) dX12_two_26 (by decide) rfl hf (fun c12 hf => ?_) (fun c12 hf => ?_)
        · refine ab_iconst (pc2 := 41) (v := (-1)) dX12_two_40 rfl ab_k_iconst_m1 ?_
          cases Option.some.inj hf
          exact ab_retI dX12_two_41 (Or.inl rfl) (Nat.le_refl _) (Nat.le_refl _) ⟨rfl, rfl⟩
        · refine ab_iload (pc2 := 31) dX12_two_29 rfl rfl ?_
          refine ab_i2l (pc2 := 32) dX12_two_31 rfl ?_
          refine ab_lconst (pc2 := 33) (v := 0) dX12_two_32 rfl rfl ?_
          refine ab_lconst (pc2 := 34) (v := 1) dX12_two_33 rfl rfl ?_
          obtain ⟨w13, ew13, hf⟩ := ab_bind hf
          refine ab_callS (pc2 := 37) (st := []) (m_X12_isIn (d := (d + 6)) ew13) mf_X12_isIn tw_101 tw_102 dX12_two_34 rfl (by omega) (Nat.le_refl _) (Nat.le_refl _) rfl (Nat.le_of_ble_eq_true rfl) (ab_kPb fun z14 => ?_)
          refine ab_if_ne (tgt := 42) (pc2 := 40) dX12_two_37 (by decide) rfl hf (fun c15 hf => ?_) (fun c15 hf => ?_)
          · refine ab_aload_n (x := _) (pc2 := 43) dX12_two_42 rfl rfl ?_
            refine ab_iload_n (pc2 := 44) dX12_two_43 rfl rfl ?_
            obtain ⟨w16, ew16, hf⟩ := ab_bind hf
            refine ab_callV (pc2 := 47) (st := []) rfl ht0 (by decide) (m_X12_wrongList (d := (d + 3)) ht0 ew16) mf_X12_wrongList tw_226 tw_225 ts_X12_wrongList (Or.inl (by decide +kernel)) dX12_two_44 rfl (by omega) (Nat.le_refl _) (Nat.le_refl _) rfl (Nat.le_of_ble_eq_true rfl) (ab_kPi ?_)
            refine ab_istore (pc2 := 49) (lo2 := [some (va_rf _), some (.int _), some (.int _), some (.int _), some (.int _), some (.int _), some (.int _), none, none, none]) dX12_two_47 rfl (by decide) rfl ?_
            refine ab_iload (pc2 := 51) dX12_two_49 rfl rfl ?_
            refine ab_if_ne (tgt := 61) (pc2 := 54) dX12_two_51 (by decide) rfl hf (fun c17 hf => ?_) (fun c17 hf => ?_)
            · exact ab_weak (x_X12_two_b61 ht0 hf) (ab_leS (ab_leS (ab_leS (ab_leS (ab_leS (ab_leS (ab_leS (ab_leN (ab_leN (ab_leN ab_le0))))))))))
            · refine ab_aload_n (x := _) (pc2 := 55) dX12_two_54 rfl rfl ?_
              refine ab_iload_n (pc2 := 56) dX12_two_55 rfl rfl ?_
              obtain ⟨w18, ew18, hf⟩ := ab_bind hf
              refine ab_callV (pc2 := 59) (st := []) rfl ht0 (by decide) (m_X12_wrongList (d := (d + 3)) ht0 ew18) mf_X12_wrongList tw_226 tw_225 ts_X12_wrongList (Or.inl (by decide +kernel)) dX12_two_56 rfl (by omega) (Nat.le_refl _) (Nat.le_refl _) rfl (Nat.le_of_ble_eq_true rfl) (ab_kPi ?_)
              refine ab_istore (pc2 := 61) (lo2 := [some (va_rf _), some (.int _), some (.int _), some (.int _), some (.int _), some (.int _), some (.int _), none, none, none]) dX12_two_59 rfl (by decide) rfl ?_
              exact ab_weak (x_X12_two_b61 ht0 hf) (ab_leS (ab_leS (ab_leS (ab_leS (ab_leS (ab_leS (ab_leS (ab_leN (ab_leN (ab_leN ab_le0))))))))))
          · refine ab_iconst (pc2 := 41) (v := (-1)) dX12_two_40 rfl ab_k_iconst_m1 ?_
            cases Option.some.inj hf
            exact ab_retI dX12_two_41 (Or.inl rfl) (Nat.le_refl _) (Nat.le_refl _) ⟨rfl, rfl⟩
set_option maxHeartbeats 4000000 in
set_option maxRecDepth 100000 in
theorem m_X12_two {d : Nat} {t0 : Nat} {i1 : Int32} {i2 : Int32} {i3 : Int32} {i4 : Int32} {i5 : Int32} {h : ab_HP} {r : (Int32 × ab_HP)} (ht0 : (ab_shp t0).1 = 5) (hf : f_X12_two t0 i1 i2 i3 i4 i5 h = some r) : ab_MET mX12_two (d + 7) 0 0 [va_rf (some t0), .int i1, .int i2, .int i3, .int i4, .int i5] h (ab_Pi r.1 r.2) := ab_met (by decide +kernel) (by decide +kernel) (Nat.le_of_ble_eq_true rfl) rfl (x_X12_two ht0 hf)
set_option maxHeartbeats 4000000 in
set_option maxRecDepth 100000 in
theorem x_X12_month_l4 {d : Nat} {t0 : Nat} {r : Int32} (ht0 : (ab_shp t0).1 = 5) : ∀ (n : Nat) (i1 : Int32) (i2 : Int32) (h : ab_HP), f_X12_month_l4 t0 n i1 i2 h = some r → ab_T mX12_month (d + 1) 0 0 0 0 4 [some (va_rf (some t0)), some (.int i1), some (.int i2)] [] h (ab_Pi r h) := by
  intro n
  induction n with
  | zero =>
    intro i1 i2 h hf
    rw [f_X12_month_l4] at hf
    cases hf
  | succ n ih =>
    intro i1 i2 h hf
    rw [f_X12_month_l4] at hf
    refine ab_iload_n (pc2 := 5) dX12_month_4 rfl rfl ?_
    refine ab_bipush (pc2 := 7) (v := 8) dX12_month_5 rfl ab_k_bipush_8 ?_
    refine ab_icmp_ge (tgt := 35) (pc2 := 10) dX12_month_7 (by decide) rfl hf (fun c1 hf => ?_) (fun c1 hf => ?_)
    · refine ab_iload_n (pc2 := 36) dX12_month_35 rfl rfl ?_
      cases Option.some.inj hf
      exact ab_retI dX12_month_36 (Or.inl rfl) (Nat.le_refl _) (Nat.le_refl _) ⟨rfl, rfl⟩
    · refine ab_aload_n (x := _) (pc2 := 11) dX12_month_10 rfl rfl ?_
      refine ab_iload_n (pc2 := 12) dX12_month_11 rfl rfl ?_
      obtain ⟨w2, ew2, hf⟩ := ab_bind hf
      refine ab_callV (pc2 := 15) (st := []) rfl ht0 (by decide) (m_X12_priceOf (d := (d + 0)) ht0 ew2) mf_X12_priceOf tw_210 tw_209 ts_X12_priceOf (Or.inl (by decide +kernel)) dX12_month_12 rfl (by omega) (Nat.le_refl _) (Nat.le_refl _) rfl (Nat.le_of_ble_eq_true rfl) (ab_kPi ?_)
      refine ab_aload_n (x := _) (pc2 := 16) dX12_month_15 rfl rfl ?_
      refine ab_iload_n (pc2 := 17) dX12_month_16 rfl rfl ?_
      obtain ⟨w3, ew3, hf⟩ := ab_bind hf
      refine ab_callV (pc2 := 20) (st := [_]) rfl ht0 (by decide) (m_X12_priceOf (d := (d + 0)) ht0 ew3) mf_X12_priceOf tw_210 tw_209 ts_X12_priceOf (Or.inl (by decide +kernel)) dX12_month_17 rfl (by omega) (Nat.le_refl _) (Nat.le_refl _) rfl (Nat.le_of_ble_eq_true rfl) (ab_kPi ?_)
      refine ab_icmp_ge (tgt := 27) (pc2 := 23) dX12_month_20 (by decide) rfl hf (fun c4 hf => ?_) (fun c4 hf => ?_)
      · refine ab_iload_n (pc2 := 28) dX12_month_27 rfl rfl ?_
        refine ab_istore_n (pc2 := 29) (lo2 := [some (va_rf _), some (.int _), some (.int _)]) dX12_month_28 rfl (by decide) rfl ?_
        refine ab_iinc (pc2 := 32) (v := _ + 1) (lo2 := [some (va_rf _), some (.int _), some (.int _)]) dX12_month_29 rfl rfl rfl (by decide) rfl ?_
        refine ab_goto (tgt := 4) dX12_month_32 (by decide) ?_
        exact ab_weak (ih _ _ _ hf) (ab_leS (ab_leS (ab_leS ab_le0)))
      · refine ab_iload_n (pc2 := 24) dX12_month_23 rfl rfl ?_
        refine ab_goto (tgt := 28) dX12_month_24 (by decide) ?_
        refine ab_istore_n (pc2 := 29) (lo2 := [some (va_rf _), some (.int _), some (.int _)]) dX12_month_28 rfl (by decide) rfl ?_
        refine ab_iinc (pc2 := 32) (v := _ + 1) (lo2 := [some (va_rf _), some (.int _), some (.int _)]) dX12_month_29 rfl rfl rfl (by decide) rfl ?_
        refine ab_goto (tgt := 4) dX12_month_32 (by decide) ?_
        exact ab_weak (ih _ _ _ hf) (ab_leS (ab_leS (ab_leS ab_le0)))
set_option maxHeartbeats 4000000 in
set_option maxRecDepth 100000 in
theorem x_X12_month {d : Nat} {t0 : Nat} {h : ab_HP} {r : Int32} (ht0 : (ab_shp t0).1 = 5) (hf : f_X12_month t0 h = some r) : ab_T mX12_month (d + 1) 0 0 0 0 0 [some (va_rf (some t0)), none, none] [] h (ab_Pi r h) := by
  unfold f_X12_month at hf
  refine ab_iconst (pc2 := 1) (v := 0) dX12_month_0 rfl ab_k_iconst_0 ?_
  refine ab_istore_n (pc2 := 2) (lo2 := [some (va_rf _), some (.int _), none]) dX12_month_1 rfl (by decide) rfl ?_
  refine ab_iconst (pc2 := 3) (v := 1) dX12_month_2 rfl ab_k_iconst_1 ?_
  refine ab_istore_n (pc2 := 4) (lo2 := [some (va_rf _), some (.int _), some (.int _)]) dX12_month_3 rfl (by decide) rfl ?_
  exact ab_weak (x_X12_month_l4 ht0 _ _ _ _ hf) (ab_leS (ab_leS (ab_leS ab_le0)))
set_option maxHeartbeats 4000000 in
set_option maxRecDepth 100000 in
theorem m_X12_month {d : Nat} {t0 : Nat} {h : ab_HP} {r : Int32} (ht0 : (ab_shp t0).1 = 5) (hf : f_X12_month t0 h = some r) : ab_MET mX12_month (d + 1) 0 0 [va_rf (some t0)] h (ab_Pi r h) := ab_met (by decide +kernel) (by decide +kernel) (Nat.le_of_ble_eq_true rfl) rfl (x_X12_month ht0 hf)
set_option maxHeartbeats 4000000 in
set_option maxRecDepth 100000 in
theorem x_X12_nail {d : Nat} {t0 : Nat} {i1 : Int32} {h : ab_HP} {r : Int32} (ht0 : (ab_shp t0).1 = 5) (hf : f_X12_nail t0 i1 h = some r) : ab_T mX12_nail (d + 1) 0 0 0 0 0 [some (va_rf (some t0)), some (.int i1)] [] h (ab_Pi r h) := by
  unfold f_X12_nail at hf
  refine ab_iload_n (pc2 := 1) dX12_nail_0 rfl rfl ?_
  refine ab_i2l (pc2 := 2) dX12_nail_1 rfl ?_
  refine ab_lconst (pc2 := 3) (v := 0) dX12_nail_2 rfl rfl ?_
  refine ab_ldc2 (pc2 := 6) (v := 7) dX12_nail_3 rfl tw_100 ?_
  obtain ⟨w1, ew1, hf⟩ := ab_bind hf
  refine ab_callS (pc2 := 9) (st := []) (m_X12_isIn (d := (d + 0)) ew1) mf_X12_isIn tw_101 tw_102 dX12_nail_6 rfl (by omega) (Nat.le_refl _) (Nat.le_refl _) rfl (Nat.le_of_ble_eq_true rfl) (ab_kPb fun z2 => ?_)
  refine ab_if_eq (tgt := 20) (pc2 := 12) dX12_nail_9 (by decide) rfl hf (fun c3 hf => ?_) (fun c3 hf => ?_)
  · refine ab_iconst (pc2 := 21) (v := (-1)) dX12_nail_20 rfl ab_k_iconst_m1 ?_
    cases Option.some.inj hf
    exact ab_retI dX12_nail_21 (Or.inl rfl) (Nat.le_refl _) (Nat.le_refl _) ⟨rfl, rfl⟩
  · refine ab_aload_n (x := _) (pc2 := 13) dX12_nail_12 rfl rfl ?_
    refine ab_iload_n (pc2 := 14) dX12_nail_13 rfl rfl ?_
    obtain ⟨w4, ew4, hf⟩ := ab_bind hf
    refine ab_callV (pc2 := 17) (st := []) rfl ht0 (by decide) (m_X12_priceOf (d := (d + 0)) ht0 ew4) mf_X12_priceOf tw_210 tw_209 ts_X12_priceOf (Or.inl (by decide +kernel)) dX12_nail_14 rfl (by omega) (Nat.le_refl _) (Nat.le_refl _) rfl (Nat.le_of_ble_eq_true rfl) (ab_kPi ?_)
    refine ab_goto (tgt := 21) dX12_nail_17 (by decide) ?_
    cases Option.some.inj hf
    exact ab_retI dX12_nail_21 (Or.inl rfl) (Nat.le_refl _) (Nat.le_refl _) ⟨rfl, rfl⟩
set_option maxHeartbeats 4000000 in
set_option maxRecDepth 100000 in
theorem m_X12_nail {d : Nat} {t0 : Nat} {i1 : Int32} {h : ab_HP} {r : Int32} (ht0 : (ab_shp t0).1 = 5) (hf : f_X12_nail t0 i1 h = some r) : ab_MET mX12_nail (d + 1) 0 0 [va_rf (some t0), .int i1] h (ab_Pi r h) := ab_met (by decide +kernel) (by decide +kernel) (Nat.le_of_ble_eq_true rfl) rfl (x_X12_nail ht0 hf)
