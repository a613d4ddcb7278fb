set_option maxHeartbeats 4000000 in
set_option maxRecDepth 100000 in
theorem x_X12_pair {d : Nat} {t0 : Nat} {i1 : Int32} {i2 : Int32} {h : ab_HP} {r : (Int32 × ab_HP)} (ht0 : (ab_shp t0).1 = 5) (hf : f_X12_pair t0 i1 i2 h = some r) : ab_T mX12_pair (d + 7) 0 0 0 0 0 [some (va_rf (some t0)), some (.int i1), some (.int i2), none] [] h (ab_Pi r.1 r.2) := by
  unfold f_X12_pair at hf
  refine ab_iload_n (pc2 := 1) dX12_pair_0 rfl rfl ?_
  obtain ⟨w1, ew1, hf⟩ := ab_bind hf
  refine ab_callS (pc2 := 4) (st := []) (m_X12_isShelf (d := (d + 5)) ew1) mf_X12_isShelf tw_103 tw_104 dX12_pair_1 rfl (by omega) (Nat.le_refl _) (Nat.le_refl _) rfl (Nat.le_of_ble_eq_true rfl) (ab_kPb fun z2 => ?_)
  refine ab_if_eq (tgt := 14) (pc2 := 7) dX12_pair_4 (by decide) rfl hf (fun c3 hf => ?_) (fun c3 hf => ?_)
  · refine ab_iconst (pc2 := 15) (v := (-1)) dX12_pair_14 rfl ab_k_iconst_m1 ?_
    cases Option.some.inj hf
    exact ab_retI dX12_pair_15 (Or.inl rfl) (Nat.le_refl _) (Nat.le_refl _) ⟨rfl, rfl⟩
  · refine ab_iload_n (pc2 := 8) dX12_pair_7 rfl rfl ?_
    obtain ⟨w4, ew4, hf⟩ := ab_bind hf
    refine ab_callS (pc2 := 11) (st := []) (m_X12_areNails (d := (d + 5)) ew4) mf_X12_areNails tw_223 tw_224 dX12_pair_8 rfl (by omega) (Nat.le_refl _) (Nat.le_refl _) rfl (Nat.le_of_ble_eq_true rfl) (ab_kPb fun z5 => ?_)
    refine ab_if_ne (tgt := 16) (pc2 := 14) dX12_pair_11 (by decide) rfl hf (fun c6 hf => ?_) (fun c6 hf => ?_)
    · refine ab_aload_n (x := _) (pc2 := 17) dX12_pair_16 rfl rfl ?_
      refine ab_iload_n (pc2 := 18) dX12_pair_17 rfl rfl ?_
      obtain ⟨w7, ew7, hf⟩ := ab_bind hf
      refine ab_callV (pc2 := 21) (st := []) rfl ht0 (by decide) (m_X12_wrongList (d := (d + 3)) ht0 ew7) mf_X12_wrongList tw_226 tw_225 ts_X12_wrongList (Or.inl (by decide +kernel)) dX12_pair_18 rfl (by omega) (Nat.le_refl _) (Nat.le_refl _) rfl (Nat.le_of_ble_eq_true rfl) (ab_kPi ?_)
      refine ab_istore_n (pc2 := 22) (lo2 := [some (va_rf _), some (.int _), some (.int _), some (.int _)]) dX12_pair_21 rfl (by decide) rfl ?_
      refine ab_iload_n (pc2 := 23) dX12_pair_22 rfl rfl ?_
      refine ab_if_eq (tgt := 28) (pc2 := 26) dX12_pair_23 (by decide) rfl hf (fun c8 hf => ?_) (fun c8 hf => ?_)
      · refine ab_aload_n (x := _) (pc2 := 29) dX12_pair_28 rfl rfl ?_
        refine ab_iload_n (pc2 := 30) dX12_pair_29 rfl rfl ?_
        refine ab_iload_n (pc2 := 31) dX12_pair_30 rfl rfl ?_
        obtain ⟨w9, ew9, hf⟩ := ab_bind hf
        refine ab_callV (pc2 := 34) (st := []) rfl ht0 (by decide) (m_X12_lays (d := (d + 5)) ht0 ew9) mf_X12_lays tw_228 tw_227 ts_X12_lays (Or.inl (by decide +kernel)) dX12_pair_31 rfl (by omega) (Nat.le_refl _) (Nat.le_refl _) rfl (Nat.le_of_ble_eq_true rfl) (ab_kPv ?_)
        refine ab_aload_n (x := _) (pc2 := 35) dX12_pair_34 rfl rfl ?_
        obtain ⟨w10, ew10, hf⟩ := ab_bind hf
        refine ab_callV (pc2 := 38) (st := []) rfl ht0 (by decide) (m_X12_pairOf (d := (d + 0)) ht0 ew10) mf_X12_pairOf tw_230 tw_229 ts_X12_pairOf (Or.inl (by decide +kernel)) dX12_pair_35 rfl (by omega) (Nat.le_refl _) (Nat.le_refl _) rfl (Nat.le_of_ble_eq_true rfl) (ab_kPv ?_)
        refine ab_aload_n (x := _) (pc2 := 39) dX12_pair_38 rfl rfl ?_
        refine ab_getR (pc2 := 42) rfl ht0 fa_X12_9 dX12_pair_39 rfl (fun T11 => ?_)
        refine ab_iconst (pc2 := 43) (v := 0) dX12_pair_42 rfl ab_k_iconst_0 ?_
        refine ab_aload_n (x := _) (pc2 := 44) dX12_pair_43 rfl rfl ?_
        refine ab_getI (pc2 := 47) rfl ht0 fa_X12_175 (by decide) dX12_pair_44 rfl ?_
        obtain ⟨q12, hq12, hf⟩ := ab_bind hf
        obtain ⟨b13, hf⟩ := ab_guard hf
        obtain ⟨h14, eh14, hf⟩ := ab_let_x hf
        refine ab_iast (pc2 := 48) hq12 (T11 q12 hq12) (ab_in_vp b13) dX12_pair_47 rfl ?_
        refine ab_topH eh14 ?_
        refine ab_aload_n (x := _) (pc2 := 49) dX12_pair_48 rfl rfl ?_
        refine ab_getR (pc2 := 52) rfl ht0 fa_X12_9 dX12_pair_49 rfl (fun T15 => ?_)
        refine ab_iconst (pc2 := 53) (v := 1) dX12_pair_52 rfl ab_k_iconst_1 ?_
        refine ab_aload_n (x := _) (pc2 := 54) dX12_pair_53 rfl rfl ?_
        refine ab_getI (pc2 := 57) rfl ht0 fa_X12_178 (by decide) dX12_pair_54 rfl ?_
        obtain ⟨q16, hq16, hf⟩ := ab_bind hf
        obtain ⟨b17, hf⟩ := ab_guard hf
        obtain ⟨h18, eh18, hf⟩ := ab_let_x hf
        refine ab_iast (pc2 := 58) hq16 (T15 q16 hq16) (ab_in_vp b17) dX12_pair_57 rfl ?_
        refine ab_topH eh18 ?_
        refine ab_aload_n (x := _) (pc2 := 59) dX12_pair_58 rfl rfl ?_
        refine ab_getR (pc2 := 62) rfl ht0 fa_X12_9 dX12_pair_59 rfl (fun T19 => ?_)
        refine ab_iconst (pc2 := 63) (v := 2) dX12_pair_62 rfl ab_k_iconst_2 ?_
        refine ab_dup2 (pc2 := 64) dX12_pair_63 rfl rfl (ab_rf1 _) ?_
        obtain ⟨q20, hq20, hf⟩ := ab_bind hf
        obtain ⟨b21, hf⟩ := ab_guard hf
        refine ab_iald (pc2 := 65) hq20 (T19 q20 hq20) (ab_in_vp b21) dX12_pair_64 rfl ?_
        refine ab_iconst (pc2 := 66) (v := 2) dX12_pair_65 rfl ab_k_iconst_2 ?_
        refine ab_iadd (pc2 := 67) dX12_pair_66 rfl ?_
        obtain ⟨b22, hf⟩ := ab_guard hf
        obtain ⟨h23, eh23, hf⟩ := ab_let_x hf
        refine ab_iast (pc2 := 68) hq20 (T19 q20 hq20) (ab_in_vp b22) dX12_pair_67 rfl ?_
        refine ab_topH eh23 ?_
        refine ab_aload_n (x := _) (pc2 := 69) dX12_pair_68 rfl rfl ?_
        obtain ⟨w24, ew24, hf⟩ := ab_bind hf
        refine ab_callV (pc2 := 72) (st := []) rfl ht0 (by decide) (m_X12_standing (d := (d + 6)) ht0 ew24) mf_X12_standing tw_232 tw_231 ts_X12_standing (Or.inl (by decide +kernel)) dX12_pair_69 rfl (by omega) (Nat.le_refl _) (Nat.le_refl _) rfl (Nat.le_of_ble_eq_true rfl) (ab_kPi ?_)
        cases Option.some.inj hf
        exact ab_retI dX12_pair_72 (Or.inl rfl) (Nat.le_refl _) (Nat.le_refl _) ⟨rfl, rfl⟩
      · refine ab_iload_n (pc2 := 27) dX12_pair_26 rfl rfl ?_
        cases Option.some.inj hf
        exact ab_retI dX12_pair_27 (Or.inl rfl) (Nat.le_refl _) (Nat.le_refl _) ⟨rfl, rfl⟩
    · refine ab_iconst (pc2 := 15) (v := (-1)) dX12_pair_14 rfl ab_k_iconst_m1 ?_
      cases Option.some.inj hf
      exact ab_retI dX12_pair_15 (Or.inl rfl) (Nat.le_refl _) (Nat.le_refl _) ⟨rfl, rfl⟩
set_option maxHeartbeats 4000000 in
set_option maxRecDepth 100000 in
theorem m_X12_pair {d : Nat} {t0 : Nat} {i1 : Int32} {i2 : Int32} {h : ab_HP} {r : (Int32 × ab_HP)} (ht0 : (ab_shp t0).1 = 5) (hf : f_X12_pair t0 i1 i2 h = some r) : ab_MET mX12_pair (d + 7) 0 0 [va_rf (some t0), .int i1, .int i2] h (ab_Pi r.1 r.2) := ab_met (by decide +kernel) (by decide +kernel) (Nat.le_of_ble_eq_true rfl) rfl (x_X12_pair ht0 hf)
set_option maxHeartbeats 4000000 in
set_option maxRecDepth 100000 in
theorem x_X12_even_l57 {d : Nat} {t0 : Nat} {r : (Int32 × ab_HP)} (ht0 : (ab_shp t0).1 = 5) : ∀ (n : Nat) (i3 : Int32) (i4 : Int32) (h : ab_HP), f_X12_even_l57 t0 n i3 i4 h = some r → ab_T mX12_even (d + 4) 0 0 0 0 57 [some (va_rf (some t0)), none, none, some (.int i3), some (.int i4)] [] h (ab_Pi r.1 r.2) := by
  intro n
  induction n with
  | zero =>
    intro i3 i4 h hf
    rw [f_X12_even_l57] at hf
    cases hf
  | succ n ih =>
    intro i3 i4 h hf
    rw [f_X12_even_l57] at hf
    refine ab_iload (pc2 := 59) dX12_even_57 rfl rfl ?_
    refine ab_aload_n (x := _) (pc2 := 60) dX12_even_59 rfl rfl ?_
    refine ab_getI (pc2 := 63) rfl ht0 fa_X12_166 (by decide) dX12_even_60 rfl ?_
    refine ab_icmp_ge (tgt := 90) (pc2 := 66) dX12_even_63 (by decide) rfl hf (fun c18 hf => ?_) (fun c18 hf => ?_)
    · refine ab_iload_n (pc2 := 91) dX12_even_90 rfl rfl ?_
      cases Option.some.inj hf
      exact ab_retI dX12_even_91 (Or.inl rfl) (Nat.le_refl _) (Nat.le_refl _) ⟨rfl, rfl⟩
    · refine ab_iload_n (pc2 := 67) dX12_even_66 rfl rfl ?_
      refine ab_aload_n (x := _) (pc2 := 68) dX12_even_67 rfl rfl ?_
      refine ab_getR (pc2 := 71) rfl ht0 fa_X12_49 dX12_even_68 rfl (fun T19 => ?_)
      refine ab_iload (pc2 := 73) dX12_even_71 rfl rfl ?_
      obtain ⟨q20, hq20, hf⟩ := ab_bind hf
      obtain ⟨b21, hf⟩ := ab_guard hf
      refine ab_iald (pc2 := 74) hq20 (T19 q20 hq20) (ab_in_vp b21) dX12_even_73 rfl ?_
      refine ab_if_eq (tgt := 81) (pc2 := 77) dX12_even_74 (by decide) rfl hf (fun c22 hf => ?_) (fun c22 hf => ?_)
      · refine ab_iconst (pc2 := 82) (v := 0) dX12_even_81 rfl ab_k_iconst_0 ?_
        refine ab_iadd (pc2 := 83) dX12_even_82 rfl ?_
        refine ab_istore_n (pc2 := 84) (lo2 := [some (va_rf _), none, none, some (.int _), some (.int _)]) dX12_even_83 rfl (by decide) rfl ?_
        refine ab_iinc (pc2 := 87) (v := _ + 1) (lo2 := [some (va_rf _), none, none, some (.int _), some (.int _)]) dX12_even_84 rfl rfl rfl (by decide) rfl ?_
        refine ab_goto (tgt := 57) dX12_even_87 (by decide) ?_
        exact ab_weak (ih _ _ _ hf) (ab_leS (ab_leN (ab_leN (ab_leS (ab_leS ab_le0)))))
      · refine ab_iconst (pc2 := 78) (v := 1) dX12_even_77 rfl ab_k_iconst_1 ?_
        refine ab_goto (tgt := 82) dX12_even_78 (by decide) ?_
        refine ab_iadd (pc2 := 83) dX12_even_82 rfl ?_
        refine ab_istore_n (pc2 := 84) (lo2 := [some (va_rf _), none, none, some (.int _), some (.int _)]) dX12_even_83 rfl (by decide) rfl ?_
        refine ab_iinc (pc2 := 87) (v := _ + 1) (lo2 := [some (va_rf _), none, none, some (.int _), some (.int _)]) dX12_even_84 rfl rfl rfl (by decide) rfl ?_
        refine ab_goto (tgt := 57) dX12_even_87 (by decide) ?_
        exact ab_weak (ih _ _ _ hf) (ab_leS (ab_leN (ab_leN (ab_leS (ab_leS ab_le0)))))
set_option maxHeartbeats 4000000 in
set_option maxRecDepth 100000 in
theorem x_X12_even {d : Nat} {t0 : Nat} {i1 : Int32} {h : ab_HP} {r : (Int32 × ab_HP)} (ht0 : (ab_shp t0).1 = 5) (hf : f_X12_even t0 i1 h = some r) : ab_T mX12_even (d + 4) 0 0 0 0 0 [some (va_rf (some t0)), some (.int i1), none, none, none] [] h (ab_Pi r.1 r.2) := by
  unfold f_X12_even at hf
  refine ab_aload_n (x := _) (pc2 := 1) dX12_even_0 rfl rfl ?_
  refine ab_iload_n (pc2 := 2) dX12_even_1 rfl rfl ?_
  obtain ⟨w1, ew1, hf⟩ := ab_bind hf
  refine ab_callV (pc2 := 5) (st := []) rfl ht0 (by decide) (m_X12_wrongList (d := (d + 0)) ht0 ew1) mf_X12_wrongList tw_226 tw_225 ts_X12_wrongList (Or.inl (by decide +kernel)) dX12_even_2 rfl (by omega) (Nat.le_refl _) (Nat.le_refl _) rfl (Nat.le_of_ble_eq_true rfl) (ab_kPi ?_)
  refine ab_istore_n (pc2 := 6) (lo2 := [some (va_rf _), some (.int _), some (.int _), none, none]) dX12_even_5 rfl (by decide) rfl ?_
  refine ab_iload_n (pc2 := 7) dX12_even_6 rfl rfl ?_
  refine ab_if_eq (tgt := 12) (pc2 := 10) dX12_even_7 (by decide) rfl hf (fun c2 hf => ?_) (fun c2 hf => ?_)
  · refine ab_aload_n (x := _) (pc2 := 13) dX12_even_12 rfl rfl ?_
    refine ab_iload_n (pc2 := 14) dX12_even_13 rfl rfl ?_
    refine ab_iconst (pc2 := 15) (v := 0) dX12_even_14 rfl ab_k_iconst_0 ?_
    obtain ⟨w3, ew3, hf⟩ := ab_bind hf
    refine ab_callV (pc2 := 18) (st := []) rfl ht0 (by decide) (m_X12_lays (d := (d + 2)) ht0 ew3) mf_X12_lays tw_228 tw_227 ts_X12_lays (Or.inl (by decide +kernel)) dX12_even_15 rfl (by omega) (Nat.le_refl _) (Nat.le_refl _) rfl (Nat.le_of_ble_eq_true rfl) (ab_kPv ?_)
    refine ab_aload_n (x := _) (pc2 := 19) dX12_even_18 rfl rfl ?_
    obtain ⟨w4, ew4, hf⟩ := ab_bind hf
    refine ab_callV (pc2 := 22) (st := []) rfl ht0 (by decide) (m_X12_evenYear (d := (d + 0)) ht0 ew4) mf_X12_evenYear tw_220 tw_219 ts_X12_evenYear (Or.inl (by decide +kernel)) dX12_even_19 rfl (by omega) (Nat.le_refl _) (Nat.le_refl _) rfl (Nat.le_of_ble_eq_true rfl) (ab_kPv ?_)
    refine ab_aload_n (x := _) (pc2 := 23) dX12_even_22 rfl rfl ?_
    refine ab_getR (pc2 := 26) rfl ht0 fa_X12_9 dX12_even_23 rfl (fun T5 => ?_)
    refine ab_iconst (pc2 := 27) (v := 0) dX12_even_26 rfl ab_k_iconst_0 ?_
    refine ab_aload_n (x := _) (pc2 := 28) dX12_even_27 rfl rfl ?_
    refine ab_getI (pc2 := 31) rfl ht0 fa_X12_175 (by decide) dX12_even_28 rfl ?_
    obtain ⟨q6, hq6, hf⟩ := ab_bind hf
    obtain ⟨b7, hf⟩ := ab_guard hf
    obtain ⟨h8, eh8, hf⟩ := ab_let_x hf
    refine ab_iast (pc2 := 32) hq6 (T5 q6 hq6) (ab_in_vp b7) dX12_even_31 rfl ?_
    refine ab_topH eh8 ?_
    refine ab_aload_n (x := _) (pc2 := 33) dX12_even_32 rfl rfl ?_
    refine ab_getR (pc2 := 36) rfl ht0 fa_X12_9 dX12_even_33 rfl (fun T9 => ?_)
    refine ab_iconst (pc2 := 37) (v := 1) dX12_even_36 rfl ab_k_iconst_1 ?_
    refine ab_aload_n (x := _) (pc2 := 38) dX12_even_37 rfl rfl ?_
    refine ab_getI (pc2 := 41) rfl ht0 fa_X12_178 (by decide) dX12_even_38 rfl ?_
    obtain ⟨q10, hq10, hf⟩ := ab_bind hf
    obtain ⟨b11, hf⟩ := ab_guard hf
    obtain ⟨h12, eh12, hf⟩ := ab_let_x hf
    refine ab_iast (pc2 := 42) hq10 (T9 q10 hq10) (ab_in_vp b11) dX12_even_41 rfl ?_
    refine ab_topH eh12 ?_
    refine ab_aload_n (x := _) (pc2 := 43) dX12_even_42 rfl rfl ?_
    refine ab_getR (pc2 := 46) rfl ht0 fa_X12_9 dX12_even_43 rfl (fun T13 => ?_)
    refine ab_iconst (pc2 := 47) (v := 2) dX12_even_46 rfl ab_k_iconst_2 ?_
    refine ab_dup2 (pc2 := 48) dX12_even_47 rfl rfl (ab_rf1 _) ?_
    obtain ⟨q14, hq14, hf⟩ := ab_bind hf
    obtain ⟨b15, hf⟩ := ab_guard hf
    refine ab_iald (pc2 := 49) hq14 (T13 q14 hq14) (ab_in_vp b15) dX12_even_48 rfl ?_
    refine ab_iconst (pc2 := 50) (v := 1) dX12_even_49 rfl ab_k_iconst_1 ?_
    refine ab_iadd (pc2 := 51) dX12_even_50 rfl ?_
    obtain ⟨b16, hf⟩ := ab_guard hf
    obtain ⟨h17, eh17, hf⟩ := ab_let_x hf
    refine ab_iast (pc2 := 52) hq14 (T13 q14 hq14) (ab_in_vp b16) dX12_even_51 rfl ?_
    refine ab_topH eh17 ?_
    refine ab_iconst (pc2 := 53) (v := 0) dX12_even_52 rfl ab_k_iconst_0 ?_
    refine ab_istore_n (pc2 := 54) (lo2 := [some (va_rf _), some (.int _), some (.int _), some (.int _), none]) dX12_even_53 rfl (by decide) rfl ?_
    refine ab_iconst (pc2 := 55) (v := 0) dX12_even_54 rfl ab_k_iconst_0 ?_
    refine ab_istore (pc2 := 57) (lo2 := [some (va_rf _), some (.int _), some (.int _), some (.int _), some (.int _)]) dX12_even_55 rfl (by decide) rfl ?_
    exact ab_weak (x_X12_even_l57 ht0 _ _ _ _ hf) (ab_leS (ab_leN (ab_leN (ab_leS (ab_leS ab_le0)))))
  · refine ab_iload_n (pc2 := 11) dX12_even_10 rfl rfl ?_
    cases Option.some.inj hf
    exact ab_retI dX12_even_11 (Or.inl rfl) (Nat.le_refl _) (Nat.le_refl _) ⟨rfl, rfl⟩
set_option maxHeartbeats 4000000 in
set_option maxRecDepth 100000 in
theorem m_X12_even {d : Nat} {t0 : Nat} {i1 : Int32} {h : ab_HP} {r : (Int32 × ab_HP)} (ht0 : (ab_shp t0).1 = 5) (hf : f_X12_even t0 i1 h = some r) : ab_MET mX12_even (d + 4) 0 0 [va_rf (some t0), .int i1] h (ab_Pi r.1 r.2) := ab_met (by decide +kernel) (by decide +kernel) (Nat.le_of_ble_eq_true rfl) rfl (x_X12_even ht0 hf)
set_option maxHeartbeats 4000000 in
set_option maxRecDepth 100000 in
theorem x_X12_isMark {d : Nat} {i0 : Int32} {h : ab_HP} {r : Int32}  (hf : f_X12_isMark i0 h = some r) : ab_T mX12_isMark (d + 1) 0 0 0 0 0 [some (.int i0)] [] h (ab_Pb r h) := by
  unfold f_X12_isMark at hf
  refine ab_iload_n (pc2 := 1) dX12_isMark_0 rfl rfl ?_
  refine ab_i2l (pc2 := 2) dX12_isMark_1 rfl ?_
  refine ab_lconst (pc2 := 3) (v := 0) dX12_isMark_2 rfl rfl ?_
  refine ab_ldc2 (pc2 := 6) (v := 9) dX12_isMark_3 rfl tw_235 ?_
  obtain ⟨w1, ew1, hf⟩ := ab_bind hf
  refine ab_callS (pc2 := 9) (st := []) (m_X12_isIn (d := (d + 0)) ew1) mf_X12_isIn tw_101 tw_102 dX12_isMark_6 rfl (by omega) (Nat.le_refl _) (Nat.le_refl _) rfl (Nat.le_of_ble_eq_true rfl) (ab_kPb fun z2 => ?_)
  cases Option.some.inj hf
  exact ab_retI dX12_isMark_9 (Or.inr ⟨rfl, z2⟩) (Nat.le_refl _) (Nat.le_refl _) ⟨rfl, rfl, z2⟩
set_option maxHeartbeats 4000000 in
set_option maxRecDepth 100000 in
theorem m_X12_isMark {d : Nat} {i0 : Int32} {h : ab_HP} {r : Int32}  (hf : f_X12_isMark i0 h = some r) : ab_MET mX12_isMark (d + 1) 0 0 [.int i0] h (ab_Pb r h) := ab_met (by decide +kernel) (by decide +kernel) (Nat.le_of_ble_eq_true rfl) rfl (x_X12_isMark  hf)
set_option maxHeartbeats 4000000 in
set_option maxRecDepth 100000 in
theorem x_X12_lasts {d : Nat} {t0 : Nat} {i1 : Int32} {i2 : Int32} {i3 : Int32} {h : ab_HP} {r : (Int32 × ab_HP)} (ht0 : (ab_shp t0).1 = 5) (hf : f_X12_lasts t0 i1 i2 i3 h = some r) : ab_T mX12_lasts (d + 7) 0 0 0 0 0 [some (va_rf (some t0)), some (.int i1), some (.int i2), some (.int i3), none] [] h (ab_Pi r.1 r.2) := by
  unfold f_X12_lasts at hf
  refine ab_iload_n (pc2 := 1) dX12_lasts_0 rfl rfl ?_
  obtain ⟨w1, ew1, hf⟩ := ab_bind hf
  refine ab_callS (pc2 := 4) (st := []) (m_X12_isShelf (d := (d + 5)) ew1) mf_X12_isShelf tw_103 tw_104 dX12_lasts_1 rfl (by omega) (Nat.le_refl _) (Nat.le_refl _) rfl (Nat.le_of_ble_eq_true rfl) (ab_kPb fun z2 => ?_)
  refine ab_if_eq (tgt := 21) (pc2 := 7) dX12_lasts_4 (by decide) rfl hf (fun c3 hf => ?_) (fun c3 hf => ?_)
  · refine ab_iconst (pc2 := 22) (v := (-1)) dX12_lasts_21 rfl ab_k_iconst_m1 ?_
    cases Option.some.inj hf
    exact ab_retI dX12_lasts_22 (Or.inl rfl) (Nat.le_refl _) (Nat.le_refl _) ⟨rfl, rfl⟩
  · refine ab_iload_n (pc2 := 8) dX12_lasts_7 rfl rfl ?_
    obtain ⟨w4, ew4, hf⟩ := ab_bind hf
    refine ab_callS (pc2 := 11) (st := []) (m_X12_areNails (d := (d + 5)) ew4) mf_X12_areNails tw_223 tw_224 dX12_lasts_8 rfl (by omega) (Nat.le_refl _) (Nat.le_refl _) rfl (Nat.le_of_ble_eq_true rfl) (ab_kPb fun z5 => ?_)
    refine ab_if_eq (tgt := 21) (pc2 := 14) dX12_lasts_11 (by decide) rfl hf (fun c6 hf => ?_) (fun c6 hf => ?_)
    · refine ab_iconst (pc2 := 22) (v := (-1)) dX12_lasts_21 rfl ab_k_iconst_m1 ?_
      cases Option.some.inj hf
      exact ab_retI dX12_lasts_22 (Or.inl rfl) (Nat.le_refl _) (Nat.le_refl _) ⟨rfl, rfl⟩
    · refine ab_iload_n (pc2 := 15) dX12_lasts_14 rfl rfl ?_
      obtain ⟨w7, ew7, hf⟩ := ab_bind hf
      refine ab_callS (pc2 := 18) (st := []) (m_X12_isMark (d := (d + 5)) ew7) mf_X12_isMark tw_236 tw_237 dX12_lasts_15 rfl (by omega) (Nat.le_refl _) (Nat.le_refl _) rfl (Nat.le_of_ble_eq_true rfl) (ab_kPb fun z8 => ?_)
      refine ab_if_ne (tgt := 23) (pc2 := 21) dX12_lasts_18 (by decide) rfl hf (fun c9 hf => ?_) (fun c9 hf => ?_)
      · refine ab_aload_n (x := _) (pc2 := 24) dX12_lasts_23 rfl rfl ?_
        refine ab_iload_n (pc2 := 25) dX12_lasts_24 rfl rfl ?_
        obtain ⟨w10, ew10, hf⟩ := ab_bind hf
        refine ab_callV (pc2 := 28) (st := []) rfl ht0 (by decide) (m_X12_wrongList (d := (d + 3)) ht0 ew10) mf_X12_wrongList tw_226 tw_225 ts_X12_wrongList (Or.inl (by decide +kernel)) dX12_lasts_25 rfl (by omega) (Nat.le_refl _) (Nat.le_refl _) rfl (Nat.le_of_ble_eq_true rfl) (ab_kPi ?_)
        refine ab_istore (pc2 := 30) (lo2 := [some (va_rf _), some (.int _), some (.int _), some (.int _), some (.int _)]) dX12_lasts_28 rfl (by decide) rfl ?_
        refine ab_iload (pc2 := 32) dX12_lasts_30 rfl rfl ?_
        refine ab_if_eq (tgt := 38) (pc2 := 35) dX12_lasts_32 (by decide) rfl hf (fun c11 hf => ?_) (fun c11 hf => ?_)
        · refine ab_aload_n (x := _) (pc2 := 39) dX12_lasts_38 rfl rfl ?_
          refine ab_iload_n (pc2 := 40) dX12_lasts_39 rfl rfl ?_
          refine ab_iload_n (pc2 := 41) dX12_lasts_40 rfl rfl ?_
          obtain ⟨w12, ew12, hf⟩ := ab_bind hf
          refine ab_callV (pc2 := 44) (st := []) rfl ht0 (by decide) (m_X12_lays (d := (d + 5)) ht0 ew12) mf_X12_lays tw_228 tw_227 ts_X12_lays (Or.inl (by decide +kernel)) dX12_lasts_41 rfl (by omega) (Nat.le_refl _) (Nat.le_refl _) rfl (Nat.le_of_ble_eq_true rfl) (ab_kPv ?_)
          refine ab_aload_n (x := _) (pc2 := 45) dX12_lasts_44 rfl rfl ?_
          obtain ⟨w13, ew13, hf⟩ := ab_bind hf
          refine ab_callV (pc2 := 48) (st := []) rfl ht0 (by decide) (m_X12_pairOf (d := (d + 0)) ht0 ew13) mf_X12_pairOf tw_230 tw_229 ts_X12_pairOf (Or.inl (by decide +kernel)) dX12_lasts_45 rfl (by omega) (Nat.le_refl _) (Nat.le_refl _) rfl (Nat.le_of_ble_eq_true rfl) (ab_kPv ?_)
          refine ab_aload_n (x := _) (pc2 := 49) dX12_lasts_48 rfl rfl ?_
          refine ab_getI (pc2 := 52) rfl ht0 fa_X12_175 (by decide) dX12_lasts_49 rfl ?_
          refine ab_iload_n (pc2 := 53) dX12_lasts_52 rfl rfl ?_
          refine ab_ishr (pc2 := 54) dX12_lasts_53 rfl ?_
          refine ab_iconst (pc2 := 55) (v := 1) dX12_lasts_54 rfl ab_k_iconst_1 ?_
          refine ab_iand (pc2 := 56) dX12_lasts_55 rfl ?_
          cases Option.some.inj hf
          exact ab_retI dX12_lasts_56 (Or.inl rfl) (Nat.le_refl _) (Nat.le_refl _) ⟨rfl, rfl⟩
        · refine ab_iload (pc2 := 37) dX12_lasts_35 rfl rfl ?_
          cases Option.some.inj hf
          exact ab_retI dX12_lasts_37 (Or.inl rfl) (Nat.le_refl _) (Nat.le_refl _) ⟨rfl, rfl⟩
      · refine ab_iconst (pc2 := 22) (v := (-1)) dX12_lasts_21 rfl ab_k_iconst_m1 ?_
        cases Option.some.inj hf
        exact ab_retI dX12_lasts_22 (Or.inl rfl) (Nat.le_refl _) (Nat.le_refl _) ⟨rfl, rfl⟩
set_option maxHeartbeats 4000000 in
set_option maxRecDepth 100000 in
theorem m_X12_lasts {d : Nat} {t0 : Nat} {i1 : Int32} {i2 : Int32} {i3 : Int32} {h : ab_HP} {r : (Int32 × ab_HP)} (ht0 : (ab_shp t0).1 = 5) (hf : f_X12_lasts t0 i1 i2 i3 h = some r) : ab_MET mX12_lasts (d + 7) 0 0 [va_rf (some t0), .int i1, .int i2, .int i3] h (ab_Pi r.1 r.2) := ab_met (by decide +kernel) (by decide +kernel) (Nat.le_of_ble_eq_true rfl) rfl (x_X12_lasts ht0 hf)
set_option maxHeartbeats 4000000 in
set_option maxRecDepth 100000 in
theorem x_X12_why {d : Nat} {t0 : Nat} {i1 : Int32} {i2 : Int32} {i3 : Int32} {h : ab_HP} {r : (Int32 × ab_HP)} (ht0 : (ab_shp t0).1 = 5) (hf : f_X12_why t0 i1 i2 i3 h = some r) : ab_T mX12_why (d + 7) 0 0 0 0 0 [some (va_rf (some t0)), some (.int i1), some (.int i2), some (.int i3), none] [] h (ab_Pi r.1 r.2) := by
  unfold f_X12_why at hf
  refine ab_iload_n (pc2 := 1) dX12_why_0 rfl rfl ?_
  obtain ⟨w1, ew1, hf⟩ := ab_bind hf
  refine ab_callS (pc2 := 4) (st := []) (m_X12_isShelf (d := (d + 5)) ew1) mf_X12_isShelf tw_103 tw_104 dX12_why_1 rfl (by omega) (Nat.le_refl _) (Nat.le_refl _) rfl (Nat.le_of_ble_eq_true rfl) (ab_kPb fun z2 => ?_)
  refine ab_if_eq (tgt := 14) (pc2 := 7) dX12_why_4 (by decide) rfl hf (fun c3 hf => ?_) (fun c3 hf => ?_)
  · refine ab_iconst (pc2 := 15) (v := (-1)) dX12_why_14 rfl ab_k_iconst_m1 ?_
    cases Option.some.inj hf
    exact ab_retI dX12_why_15 (Or.inl rfl) (Nat.le_refl _) (Nat.le_refl _) ⟨rfl, rfl⟩
  · refine ab_iload_n (pc2 := 8) dX12_why_7 rfl rfl ?_
    obtain ⟨w4, ew4, hf⟩ := ab_bind hf
    refine ab_callS (pc2 := 11) (st := []) (m_X12_areNails (d := (d + 5)) ew4) mf_X12_areNails tw_223 tw_224 dX12_why_8 rfl (by omega) (Nat.le_refl _) (Nat.le_refl _) rfl (Nat.le_of_ble_eq_true rfl) (ab_kPb fun z5 => ?_)
    refine ab_if_ne (tgt := 16) (pc2 := 14) dX12_why_11 (by decide) rfl hf (fun c6 hf => ?_) (fun c6 hf => ?_)
    · refine ab_aload_n (x := _) (pc2 := 17) dX12_why_16 rfl rfl ?_
      refine ab_iload_n (pc2 := 18) dX12_why_17 rfl rfl ?_
      obtain ⟨w7, ew7, hf⟩ := ab_bind hf
      refine ab_callV (pc2 := 21) (st := []) rfl ht0 (by decide) (m_X12_wrongList (d := (d + 3)) ht0 ew7) mf_X12_wrongList tw_226 tw_225 ts_X12_wrongList (Or.inl (by decide +kernel)) dX12_why_18 rfl (by omega) (Nat.le_refl _) (Nat.le_refl _) rfl (Nat.le_of_ble_eq_true rfl) (ab_kPi ?_)
      refine ab_istore (pc2 := 23) (lo2 := [some (va_rf _), some (.int _), some (.int _), some (.int _), some (.int _)]) dX12_why_21 rfl (by decide) rfl ?_
      refine ab_iload (pc2 := 25) dX12_why_23 rfl rfl ?_
      refine ab_if_eq (tgt := 31) (pc2 := 28) dX12_why_25 (by decide) rfl hf (fun c8 hf => ?_) (fun c8 hf => ?_)
      · refine ab_iload_n (pc2 := 32) dX12_why_31 rfl rfl ?_
        refine ab_i2l (pc2 := 33) dX12_why_32 rfl ?_
        refine ab_lconst (pc2 := 34) (v := 0) dX12_why_33 rfl rfl ?_
        refine ab_aload_n (x := _) (pc2 := 35) dX12_why_34 rfl rfl ?_
        refine ab_getR (pc2 := 38) rfl ht0 fa_X12_25 dX12_why_35 rfl (fun T9 => ?_)
        refine ab_iload_n (pc2 := 39) dX12_why_38 rfl rfl ?_
        obtain ⟨q10, hq10, hf⟩ := ab_bind hf
        obtain ⟨b11, hf⟩ := ab_guard hf
        refine ab_iald (pc2 := 40) hq10 (T9 q10 hq10) (ab_in_vp b11) dX12_why_39 rfl ?_
        refine ab_iconst (pc2 := 41) (v := 1) dX12_why_40 rfl ab_k_iconst_1 ?_
        refine ab_isub (pc2 := 42) dX12_why_41 rfl ?_
        refine ab_i2l (pc2 := 43) dX12_why_42 rfl ?_
        obtain ⟨w12, ew12, hf⟩ := ab_bind hf
        refine ab_callS (pc2 := 46) (st := []) (m_X12_isIn (d := (d + 6)) ew12) mf_X12_isIn tw_101 tw_102 dX12_why_43 rfl (by omega) (Nat.le_refl _) (Nat.le_refl _) rfl (Nat.le_of_ble_eq_true rfl) (ab_kPb fun z13 => ?_)
        refine ab_if_ne (tgt := 52) (pc2 := 49) dX12_why_46 (by decide) rfl hf (fun c14 hf => ?_) (fun c14 hf => ?_)
        · refine ab_aload_n (x := _) (pc2 := 53) dX12_why_52 rfl rfl ?_
          refine ab_iload_n (pc2 := 54) dX12_why_53 rfl rfl ?_
          refine ab_iload_n (pc2 := 55) dX12_why_54 rfl rfl ?_
          obtain ⟨w15, ew15, hf⟩ := ab_bind hf
          refine ab_callV (pc2 := 58) (st := []) rfl ht0 (by decide) (m_X12_lays (d := (d + 5)) ht0 ew15) mf_X12_lays tw_228 tw_227 ts_X12_lays (Or.inl (by decide +kernel)) dX12_why_55 rfl (by omega) (Nat.le_refl _) (Nat.le_refl _) rfl (Nat.le_of_ble_eq_true rfl) (ab_kPv ?_)
          refine ab_aload_n (x := _) (pc2 := 59) dX12_why_58 rfl rfl ?_
          obtain ⟨w16, ew16, hf⟩ := ab_bind hf
          refine ab_callV (pc2 := 62) (st := []) rfl ht0 (by decide) (m_X12_pairOf (d := (d + 0)) ht0 ew16) mf_X12_pairOf tw_230 tw_229 ts_X12_pairOf (Or.inl (by decide +kernel)) dX12_why_59 rfl (by omega) (Nat.le_refl _) (Nat.le_refl _) rfl (Nat.le_of_ble_eq_true rfl) (ab_kPv ?_)
          refine ab_aload_n (x := _) (pc2 := 63) dX12_why_62 rfl rfl ?_
          refine ab_getR (pc2 := 66) rfl ht0 fa_X12_49 dX12_why_63 rfl (fun T17 => ?_)
          refine ab_iload_n (pc2 := 67) dX12_why_66 rfl rfl ?_
          obtain ⟨q18, hq18, hf⟩ := ab_bind hf
          obtain ⟨b19, hf⟩ := ab_guard hf
          refine ab_iald (pc2 := 68) hq18 (T17 q18 hq18) (ab_in_vp b19) dX12_why_67 rfl ?_
          cases Option.some.inj hf
          exact ab_retI dX12_why_68 (Or.inl rfl) (Nat.le_refl _) (Nat.le_refl _) ⟨rfl, rfl⟩
        · refine ab_bipush (pc2 := 51) (v := (-13)) dX12_why_49 rfl ab_k_bipush_m13 ?_
          cases Option.some.inj hf
          exact ab_retI dX12_why_51 (Or.inl rfl) (Nat.le_refl _) (Nat.le_refl _) ⟨rfl, rfl⟩
      · refine ab_iload (pc2 := 30) dX12_why_28 rfl rfl ?_
        cases Option.some.inj hf
        exact ab_retI dX12_why_30 (Or.inl rfl) (Nat.le_refl _) (Nat.le_refl _) ⟨rfl, rfl⟩
    · refine ab_iconst (pc2 := 15) (v := (-1)) dX12_why_14 rfl ab_k_iconst_m1 ?_
      cases Option.some.inj hf
      exact ab_retI dX12_why_15 (Or.inl rfl) (Nat.le_refl _) (Nat.le_refl _) ⟨rfl, rfl⟩
set_option maxHeartbeats 4000000 in
set_option maxRecDepth 100000 in
theorem m_X12_why {d : Nat} {t0 : Nat} {i1 : Int32} {i2 : Int32} {i3 : Int32} {h : ab_HP} {r : (Int32 × ab_HP)} (ht0 : (ab_shp t0).1 = 5) (hf : f_X12_why t0 i1 i2 i3 h = some r) : ab_MET mX12_why (d + 7) 0 0 [va_rf (some t0), .int i1, .int i2, .int i3] h (ab_Pi r.1 r.2) := ab_met (by decide +kernel) (by decide +kernel) (Nat.le_of_ble_eq_true rfl) rfl (x_X12_why ht0 hf)
set_option maxHeartbeats 4000000 in
set_option maxRecDepth 100000 in
theorem x_X12_behind {d : Nat} {t0 : Nat} {i1 : Int32} {i2 : Int32} {i3 : Int32} {h : ab_HP} {r : (Int32 × ab_HP)} (ht0 : (ab_shp t0).1 = 5) (hf : f_X12_behind t0 i1 i2 i3 h = some r) : ab_T mX12_behind (d + 7) 0 0 0 0 0 [some (va_rf (some t0)), some (.int i1), some (.int i2), some (.int i3), none] [] h (ab_Pi r.1 r.2) := by
  unfold f_X12_behind at hf
  refine ab_iload_n (pc2 := 1) dX12_behind_0 rfl rfl ?_
  obtain ⟨w1, ew1, hf⟩ := ab_bind hf
  refine ab_callS (pc2 := 4) (st := []) (m_X12_isShelf (d := (d + 5)) ew1) mf_X12_isShelf tw_103 tw_104 dX12_behind_1 rfl (by omega) (Nat.le_refl _) (Nat.le_refl _) rfl (Nat.le_of_ble_eq_true rfl) (ab_kPb fun z2 => ?_)
  refine ab_if_eq (tgt := 26) (pc2 := 7) dX12_behind_4 (by decide) rfl hf (fun c3 hf => ?_) (fun c3 hf => ?_)
  · refine ab_iconst (pc2 := 27) (v := (-1)) dX12_behind_26 rfl ab_k_iconst_m1 ?_
    cases Option.some.inj hf
    exact ab_retI dX12_behind_27 (Or.inl rfl) (Nat.le_refl _) (Nat.le_refl _) ⟨rfl, rfl⟩
  · refine ab_iload_n (pc2 := 8) dX12_behind_7 rfl rfl ?_
    obtain ⟨w4, ew4, hf⟩ := ab_bind hf
    refine ab_callS (pc2 := 11) (st := []) (m_X12_areNails (d := (d + 5)) ew4) mf_X12_areNails tw_223 tw_224 dX12_behind_8 rfl (by omega) (Nat.le_refl _) (Nat.le_refl _) rfl (Nat.le_of_ble_eq_true rfl) (ab_kPb fun z5 => ?_)
    refine ab_if_eq (tgt := 26) (pc2 := 14) dX12_behind_11 (by decide) rfl hf (fun c6 hf => ?_) (fun c6 hf => ?_)
    · refine ab_iconst (pc2 := 27) (v := (-1)) dX12_behind_26 rfl ab_k_iconst_m1 ?_
      cases Option.some.inj hf
      exact ab_retI dX12_behind_27 (Or.inl rfl) (Nat.le_refl _) (Nat.le_refl _) ⟨rfl, rfl⟩
    · refine ab_iload_n (pc2 := 15) dX12_behind_14 rfl rfl ?_
      refine ab_i2l (pc2 := 16) dX12_behind_15 rfl ?_
      refine ab_lconst (pc2 := 17) (v := 0) dX12_behind_16 rfl rfl ?_
      refine ab_ldc2 (pc2 := 20) (v := 3) dX12_behind_17 rfl tw_139 ?_
      obtain ⟨w7, ew7, hf⟩ := ab_bind hf
      refine ab_callS (pc2 := 23) (st := []) (m_X12_isIn (d := (d + 6)) ew7) mf_X12_isIn tw_101 tw_102 dX12_behind_20 rfl (by omega) (Nat.le_refl _) (Nat.le_refl _) rfl (Nat.le_of_ble_eq_true rfl) (ab_kPb fun z8 => ?_)
      refine ab_if_ne (tgt := 28) (pc2 := 26) dX12_behind_23 (by decide) rfl hf (fun c9 hf => ?_) (fun c9 hf => ?_)
      · refine ab_aload_n (x := _) (pc2 := 29) dX12_behind_28 rfl rfl ?_
        refine ab_iload_n (pc2 := 30) dX12_behind_29 rfl rfl ?_
        obtain ⟨w10, ew10, hf⟩ := ab_bind hf
        refine ab_callV (pc2 := 33) (st := []) rfl ht0 (by decide) (m_X12_wrongList (d := (d + 3)) ht0 ew10) mf_X12_wrongList tw_226 tw_225 ts_X12_wrongList (Or.inl (by decide +kernel)) dX12_behind_30 rfl (by omega) (Nat.le_refl _) (Nat.le_refl _) rfl (Nat.le_of_ble_eq_true rfl) (ab_kPi ?_)
        refine ab_istore (pc2 := 35) (lo2 := [some (va_rf _), some (.int _), some (.int _), some (.int _), some (.int _)]) dX12_behind_33 rfl (by decide) rfl ?_
        refine ab_iload (pc2 := 37) dX12_behind_35 rfl rfl ?_
        refine ab_if_eq (tgt := 43) (pc2 := 40) dX12_behind_37 (by decide) rfl hf (fun c11 hf => ?_) (fun c11 hf => ?_)
        · refine ab_aload_n (x := _) (pc2 := 44) dX12_behind_43 rfl rfl ?_
          refine ab_iload_n (pc2 := 45) dX12_behind_44 rfl rfl ?_
          refine ab_iload_n (pc2 := 46) dX12_behind_45 rfl rfl ?_
          obtain ⟨w12, ew12, hf⟩ := ab_bind hf
          refine ab_callV (pc2 := 49) (st := []) rfl ht0 (by decide) (m_X12_lays (d := (d + 5)) ht0 ew12) mf_X12_lays tw_228 tw_227 ts_X12_lays (Or.inl (by decide +kernel)) dX12_behind_46 rfl (by omega) (Nat.le_refl _) (Nat.le_refl _) rfl (Nat.le_of_ble_eq_true rfl) (ab_kPv ?_)
          refine ab_aload_n (x := _) (pc2 := 50) dX12_behind_49 rfl rfl ?_
          obtain ⟨w13, ew13, hf⟩ := ab_bind hf
          refine ab_callV (pc2 := 53) (st := []) rfl ht0 (by decide) (m_X12_pairOf (d := (d + 0)) ht0 ew13) mf_X12_pairOf tw_230 tw_229 ts_X12_pairOf (Or.inl (by decide +kernel)) dX12_behind_50 rfl (by omega) (Nat.le_refl _) (Nat.le_refl _) rfl (Nat.le_of_ble_eq_true rfl) (ab_kPv ?_)
          refine ab_iload_n (pc2 := 54) dX12_behind_53 rfl rfl ?_
          refine ab_if_ne (tgt := 64) (pc2 := 57) dX12_behind_54 (by decide) rfl hf (fun c14 hf => ?_) (fun c14 hf => ?_)
          · refine ab_iload_n (pc2 := 65) dX12_behind_64 rfl rfl ?_
            refine ab_iconst (pc2 := 66) (v := 1) dX12_behind_65 rfl ab_k_iconst_1 ?_
            refine ab_icmp_ne (tgt := 76) (pc2 := 69) dX12_behind_66 (by decide) rfl hf (fun c15 hf => ?_) (fun c15 hf => ?_)
            · refine ab_iload_n (pc2 := 77) dX12_behind_76 rfl rfl ?_
              refine ab_iconst (pc2 := 78) (v := 2) dX12_behind_77 rfl ab_k_iconst_2 ?_
              refine ab_icmp_ne (tgt := 88) (pc2 := 81) dX12_behind_78 (by decide) rfl hf (fun c16 hf => ?_) (fun c16 hf => ?_)
              · refine ab_aload_n (x := _) (pc2 := 89) dX12_behind_88 rfl rfl ?_
                refine ab_getI (pc2 := 92) rfl ht0 fa_X12_181 (by decide) dX12_behind_89 rfl ?_
                cases Option.some.inj hf
                exact ab_retI dX12_behind_92 (Or.inl rfl) (Nat.le_refl _) (Nat.le_refl _) ⟨rfl, rfl⟩
              · refine ab_aload_n (x := _) (pc2 := 82) dX12_behind_81 rfl rfl ?_
                refine ab_getI (pc2 := 85) rfl ht0 fa_X12_184 (by decide) dX12_behind_82 rfl ?_
                refine ab_goto (tgt := 92) dX12_behind_85 (by decide) ?_
                cases Option.some.inj hf
                exact ab_retI dX12_behind_92 (Or.inl rfl) (Nat.le_refl _) (Nat.le_refl _) ⟨rfl, rfl⟩
            · refine ab_aload_n (x := _) (pc2 := 70) dX12_behind_69 rfl rfl ?_
              refine ab_getI (pc2 := 73) rfl ht0 fa_X12_178 (by decide) dX12_behind_70 rfl ?_
              refine ab_goto (tgt := 92) dX12_behind_73 (by decide) ?_
              cases Option.some.inj hf
              exact ab_retI dX12_behind_92 (Or.inl rfl) (Nat.le_refl _) (Nat.le_refl _) ⟨rfl, rfl⟩
          · refine ab_aload_n (x := _) (pc2 := 58) dX12_behind_57 rfl rfl ?_
            refine ab_getI (pc2 := 61) rfl ht0 fa_X12_175 (by decide) dX12_behind_58 rfl ?_
            refine ab_goto (tgt := 92) dX12_behind_61 (by decide) ?_
            cases Option.some.inj hf
            exact ab_retI dX12_behind_92 (Or.inl rfl) (Nat.le_refl _) (Nat.le_refl _) ⟨rfl, rfl⟩
        · refine ab_iload (pc2 := 42) dX12_behind_40 rfl rfl ?_
          cases Option.some.inj hf
          exact ab_retI dX12_behind_42 (Or.inl rfl) (Nat.le_refl _) (Nat.le_refl _) ⟨rfl, rfl⟩
      · refine ab_iconst (pc2 := 27) (v := (-1)) dX12_behind_26 rfl ab_k_iconst_m1 ?_
        cases Option.some.inj hf
        exact ab_retI dX12_behind_27 (Or.inl rfl) (Nat.le_refl _) (Nat.le_refl _) ⟨rfl, rfl⟩
set_option maxHeartbeats 4000000 in
set_option maxRecDepth 100000 in
theorem m_X12_behind {d : Nat} {t0 : Nat} {i1 : Int32} {i2 : Int32} {i3 : Int32} {h : ab_HP} {r : (Int32 × ab_HP)} (ht0 : (ab_shp t0).1 = 5) (hf : f_X12_behind t0 i1 i2 i3 h = some r) : ab_MET mX12_behind (d + 7) 0 0 [va_rf (some t0), .int i1, .int i2, .int i3] h (ab_Pi r.1 r.2) := ab_met (by decide +kernel) (by decide +kernel) (Nat.le_of_ble_eq_true rfl) rfl (x_X12_behind ht0 hf)
set_option maxHeartbeats 4000000 in
set_option maxRecDepth 100000 in
theorem x_X12_bits_l4 {d : Nat}  {r : Int32}  : ∀ (n : Nat) (i1 : Int32) (i2 : Int32) (h : ab_HP), f_X12_bits_l4  n i1 i2 h = some r → ab_T mX12_bits (d + 0) 0 0 0 0 4 [none, some (.int i1), some (.int i2)] [] h (ab_Pi r h) := by
  intro n
  induction n with
  | zero =>
    intro i1 i2 h hf
    rw [f_X12_bits_l4] at hf
    cases hf
  | succ n ih =>
    intro i1 i2 h hf
    rw [f_X12_bits_l4] at hf
    refine ab_iload_n (pc2 := 5) dX12_bits_4 rfl rfl ?_
    refine ab_if_le (tgt := 21) (pc2 := 8) dX12_bits_5 (by decide) rfl hf (fun c1 hf => ?_) (fun c1 hf => ?_)
    · refine ab_iload_n (pc2 := 22) dX12_bits_21 rfl rfl ?_
      cases Option.some.inj hf
      exact ab_retI dX12_bits_22 (Or.inl rfl) (Nat.le_refl _) (Nat.le_refl _) ⟨rfl, rfl⟩
    · refine ab_iload_n (pc2 := 9) dX12_bits_8 rfl rfl ?_
      refine ab_iload_n (pc2 := 10) dX12_bits_9 rfl rfl ?_
      refine ab_iconst (pc2 := 11) (v := 1) dX12_bits_10 rfl ab_k_iconst_1 ?_
      refine ab_iand (pc2 := 12) dX12_bits_11 rfl ?_
      refine ab_iadd (pc2 := 13) dX12_bits_12 rfl ?_
      refine ab_istore_n (pc2 := 14) (lo2 := [none, some (.int _), some (.int _)]) dX12_bits_13 rfl (by decide) rfl ?_
      refine ab_iload_n (pc2 := 15) dX12_bits_14 rfl rfl ?_
      refine ab_iconst (pc2 := 16) (v := 1) dX12_bits_15 rfl ab_k_iconst_1 ?_
      refine ab_ishr (pc2 := 17) dX12_bits_16 rfl ?_
      refine ab_istore_n (pc2 := 18) (lo2 := [none, some (.int _), some (.int _)]) dX12_bits_17 rfl (by decide) rfl ?_
      refine ab_goto (tgt := 4) dX12_bits_18 (by decide) ?_
      exact ab_weak (ih _ _ _ hf) (ab_leN (ab_leS (ab_leS ab_le0)))
set_option maxHeartbeats 4000000 in
set_option maxRecDepth 100000 in
theorem x_X12_bits {d : Nat} {i0 : Int32} {h : ab_HP} {r : Int32}  (hf : f_X12_bits i0 h = some r) : ab_T mX12_bits (d + 0) 0 0 0 0 0 [some (.int i0), none, none] [] h (ab_Pi r h) := by
  unfold f_X12_bits at hf
  refine ab_iconst (pc2 := 1) (v := 0) dX12_bits_0 rfl ab_k_iconst_0 ?_
  refine ab_istore_n (pc2 := 2) (lo2 := [some (.int _), some (.int _), none]) dX12_bits_1 rfl (by decide) rfl ?_
  refine ab_iload_n (pc2 := 3) dX12_bits_2 rfl rfl ?_
  refine ab_istore_n (pc2 := 4) (lo2 := [some (.int _), some (.int _), some (.int _)]) dX12_bits_3 rfl (by decide) rfl ?_
  exact ab_weak (x_X12_bits_l4  _ _ _ _ hf) (ab_leN (ab_leS (ab_leS ab_le0)))
set_option maxHeartbeats 4000000 in
set_option maxRecDepth 100000 in
theorem m_X12_bits {d : Nat} {i0 : Int32} {h : ab_HP} {r : Int32}  (hf : f_X12_bits i0 h = some r) : ab_MET mX12_bits (d + 0) 0 0 [.int i0] h (ab_Pi r h) := ab_met (by decide +kernel) (by decide +kernel) (Nat.le_of_ble_eq_true rfl) rfl (x_X12_bits  hf)
set_option maxHeartbeats 4000000 in
set_option maxRecDepth 100000 in
theorem x_X12_finds_b94 {d : Nat} {k8 : Int32 → Int32 → ab_HP → Option (Int32 × ab_HP)} {t0 : Nat} {i1 : Int32} {i2 : Int32} {h : ab_HP} {r : (Int32 × ab_HP)} (ht0 : (ab_shp t0).1 = 5) (hk8 : ∀ (i1 : Int32) (i2 : Int32) (h : ab_HP), k8 i1 i2 h = some r → ab_T mX12_finds (d + 7) 0 0 0 0 8 [some (va_rf (some t0)), some (.int i1), some (.int i2)] [] h (ab_Pb r.1 r.2)) (hf : f_X12_finds_b94 k8 t0 i1 i2 h = some r) : ab_T mX12_finds (d + 7) 0 0 0 0 94 [some (va_rf (some t0)), some (.int i1), some (.int i2)] [] h (ab_Pb r.1 r.2) := by
  unfold f_X12_finds_b94 at hf
  refine ab_aload_n (x := _) (pc2 := 95) dX12_finds_94 rfl rfl ?_
  refine ab_iload_n (pc2 := 96) dX12_finds_95 rfl rfl ?_
  obtain ⟨h16, eh16, hf⟩ := ab_let_x hf
  refine ab_putI (pc2 := 99) rfl ht0 fa_X12_232 (Or.inl rfl) (fun z => by cases z) dX12_finds_96 rfl ?_
  refine ab_topH eh16 ?_
  refine ab_aload_n (x := _) (pc2 := 100) dX12_finds_99 rfl rfl ?_
  refine ab_aload_n (x := _) (pc2 := 101) dX12_finds_100 rfl rfl ?_
  refine ab_getI (pc2 := 104) rfl ht0 fa_X12_181 (by decide) dX12_finds_101 rfl ?_
  obtain ⟨h17, eh17, hf⟩ := ab_let_x hf
  refine ab_putI (pc2 := 107) rfl ht0 fa_X12_238 (Or.inl rfl) (fun z => by cases z) dX12_finds_104 rfl ?_
  refine ab_topH eh17 ?_
  refine ab_iinc (pc2 := 110) (v := _ + 1) (lo2 := [some (va_rf _), some (.int _), some (.int _)]) dX12_finds_107 rfl rfl rfl (by decide) rfl ?_
  refine ab_goto (tgt := 8) dX12_finds_110 (by decide) ?_
  exact ab_weak (hk8 _ _ _ hf) (ab_leS (ab_leS (ab_leS ab_le0)))
set_option maxHeartbeats 4000000 in
set_option maxRecDepth 100000 in
theorem x_X12_finds_l8 {d : Nat} {t0 : Nat} {r : (Int32 × ab_HP)} (ht0 : (ab_shp t0).1 = 5) : ∀ (n : Nat) (i1 : Int32) (i2 : Int32) (h : ab_HP), f_X12_finds_l8 t0 n i1 i2 h = some r → ab_T mX12_finds (d + 7) 0 0 0 0 8 [some (va_rf (some t0)), some (.int i1), some (.int i2)] [] h (ab_Pb r.1 r.2) := by
  intro n
  induction n with
  | zero =>
    intro i1 i2 h hf
    rw [f_X12_finds_l8] at hf
    cases hf
  | succ n ih =>
    intro i1 i2 h hf
    rw [f_X12_finds_l8] at hf
    refine ab_iload_n (pc2 := 9) dX12_finds_8 rfl rfl ?_
    refine ab_iconst (pc2 := 10) (v := 1) dX12_finds_9 rfl ab_k_iconst_1 ?_
    refine ab_aload_n (x := _) (pc2 := 11) dX12_finds_10 rfl rfl ?_
    refine ab_getI (pc2 := 14) rfl ht0 fa_X12_166 (by decide) dX12_finds_11 rfl ?_
    refine ab_ishl (pc2 := 15) dX12_finds_14 rfl ?_
    refine ab_icmp_ge (tgt := 113) (pc2 := 18) dX12_finds_15 (by decide) rfl hf (fun c2 hf => ?_) (fun c2 hf => ?_)
    · refine ab_aload_n (x := _) (pc2 := 114) dX12_finds_113 rfl rfl ?_
      refine ab_getI (pc2 := 117) rfl ht0 fa_X12_232 (by decide) dX12_finds_114 rfl ?_
      refine ab_if_lt (tgt := 124) (pc2 := 120) dX12_finds_117 (by decide) rfl hf (fun c3 hf => ?_) (fun c3 hf => ?_)
      · refine ab_iconst (pc2 := 125) (v := 0) dX12_finds_124 rfl ab_k_iconst_0 ?_
        cases Option.some.inj hf
        exact ab_retI dX12_finds_125 (Or.inr ⟨rfl, (Or.inl rfl)⟩) (Nat.le_refl _) (Nat.le_refl _) ⟨rfl, rfl, (Or.inl rfl)⟩
      · refine ab_iconst (pc2 := 121) (v := 1) dX12_finds_120 rfl ab_k_iconst_1 ?_
        refine ab_goto (tgt := 125) dX12_finds_121 (by decide) ?_
        cases Option.some.inj hf
        exact ab_retI dX12_finds_125 (Or.inr ⟨rfl, (Or.inr rfl)⟩) (Nat.le_refl _) (Nat.le_refl _) ⟨rfl, rfl, (Or.inr rfl)⟩
    · refine ab_aload_n (x := _) (pc2 := 19) dX12_finds_18 rfl rfl ?_
      refine ab_iload_n (pc2 := 20) dX12_finds_19 rfl rfl ?_
      obtain ⟨h4, eh4, hf⟩ := ab_let_x hf
      refine ab_putI (pc2 := 23) rfl ht0 fa_X12_169 (Or.inl rfl) (fun z => by cases z) dX12_finds_20 rfl ?_
      refine ab_topH eh4 ?_
      refine ab_aload_n (x := _) (pc2 := 24) dX12_finds_23 rfl rfl ?_
      obtain ⟨w5, ew5, hf⟩ := ab_bind hf
      refine ab_callV (pc2 := 27) (st := []) rfl ht0 (by decide) (m_X12_begins (d := (d + 6)) ht0 ew5) mf_X12_begins tw_206 tw_205 ts_X12_begins (Or.inl (by decide +kernel)) dX12_finds_24 rfl (by omega) (Nat.le_refl _) (Nat.le_refl _) rfl (Nat.le_of_ble_eq_true rfl) (ab_kPv ?_)
      refine ab_aload_n (x := _) (pc2 := 28) dX12_finds_27 rfl rfl ?_
      obtain ⟨w6, ew6, hf⟩ := ab_bind hf
      refine ab_callV (pc2 := 31) (st := []) rfl ht0 (by decide) (m_X12_pairOf (d := (d + 0)) ht0 ew6) mf_X12_pairOf tw_230 tw_229 ts_X12_pairOf (Or.inl (by decide +kernel)) dX12_finds_28 rfl (by omega) (Nat.le_refl _) (Nat.le_refl _) rfl (Nat.le_of_ble_eq_true rfl) (ab_kPv ?_)
      refine ab_iload_n (pc2 := 32) dX12_finds_31 rfl rfl ?_
      refine ab_aload_n (x := _) (pc2 := 33) dX12_finds_32 rfl rfl ?_
      refine ab_getI (pc2 := 36) rfl ht0 fa_X12_175 (by decide) dX12_finds_33 rfl ?_
      refine ab_iconst (pc2 := 37) (v := (-1)) dX12_finds_36 rfl ab_k_iconst_m1 ?_
      refine ab_ixor (pc2 := 38) dX12_finds_37 rfl ?_
      refine ab_iand (pc2 := 39) dX12_finds_38 rfl ?_
      refine ab_if_eq (tgt := 45) (pc2 := 42) dX12_finds_39 (by decide) rfl hf (fun c7 hf => ?_) (fun c7 hf => ?_)
      · refine ab_aload_n (x := _) (pc2 := 46) dX12_finds_45 rfl rfl ?_
        refine ab_getI (pc2 := 49) rfl ht0 fa_X12_232 (by decide) dX12_finds_46 rfl ?_
        refine ab_if_lt (tgt := 94) (pc2 := 52) dX12_finds_49 (by decide) rfl hf (fun c8 hf => ?_) (fun c8 hf => ?_)
        · exact ab_weak (x_X12_finds_b94 ht0 ih hf) (ab_leS (ab_leS (ab_leS ab_le0)))
        · refine ab_iload_n (pc2 := 53) dX12_finds_52 rfl rfl ?_
          obtain ⟨w9, ew9, hf⟩ := ab_bind hf
          refine ab_callS (pc2 := 56) (st := []) (m_X12_bits (d := (d + 6)) ew9) mf_X12_bits tw_246 tw_247 dX12_finds_53 rfl (by omega) (Nat.le_refl _) (Nat.le_refl _) rfl (Nat.le_of_ble_eq_true rfl) (ab_kPi ?_)
          refine ab_aload_n (x := _) (pc2 := 57) dX12_finds_56 rfl rfl ?_
          refine ab_getI (pc2 := 60) rfl ht0 fa_X12_232 (by decide) dX12_finds_57 rfl ?_
          obtain ⟨w10, ew10, hf⟩ := ab_bind hf
          refine ab_callS (pc2 := 63) (st := [_]) (m_X12_bits (d := (d + 6)) ew10) mf_X12_bits tw_246 tw_247 dX12_finds_60 rfl (by omega) (Nat.le_refl _) (Nat.le_refl _) rfl (Nat.le_of_ble_eq_true rfl) (ab_kPi ?_)
          refine ab_icmp_gt (tgt := 107) (pc2 := 66) dX12_finds_63 (by decide) rfl hf (fun c11 hf => ?_) (fun c11 hf => ?_)
          · refine ab_iinc (pc2 := 110) (v := _ + 1) (lo2 := [some (va_rf _), some (.int _), some (.int _)]) dX12_finds_107 rfl rfl rfl (by decide) rfl ?_
            refine ab_goto (tgt := 8) dX12_finds_110 (by decide) ?_
            exact ab_weak (ih _ _ _ hf) (ab_leS (ab_leS (ab_leS ab_le0)))
          · refine ab_iload_n (pc2 := 67) dX12_finds_66 rfl rfl ?_
            obtain ⟨w12, ew12, hf⟩ := ab_bind hf
            refine ab_callS (pc2 := 70) (st := []) (m_X12_bits (d := (d + 6)) ew12) mf_X12_bits tw_246 tw_247 dX12_finds_67 rfl (by omega) (Nat.le_refl _) (Nat.le_refl _) rfl (Nat.le_of_ble_eq_true rfl) (ab_kPi ?_)
            refine ab_aload_n (x := _) (pc2 := 71) dX12_finds_70 rfl rfl ?_
            refine ab_getI (pc2 := 74) rfl ht0 fa_X12_232 (by decide) dX12_finds_71 rfl ?_
            obtain ⟨w13, ew13, hf⟩ := ab_bind hf
            refine ab_callS (pc2 := 77) (st := [_]) (m_X12_bits (d := (d + 6)) ew13) mf_X12_bits tw_246 tw_247 dX12_finds_74 rfl (by omega) (Nat.le_refl _) (Nat.le_refl _) rfl (Nat.le_of_ble_eq_true rfl) (ab_kPi ?_)
            refine ab_icmp_ne (tgt := 94) (pc2 := 80) dX12_finds_77 (by decide) rfl hf (fun c14 hf => ?_) (fun c14 hf => ?_)
            · exact ab_weak (x_X12_finds_b94 ht0 ih hf) (ab_leS (ab_leS (ab_leS ab_le0)))
            · refine ab_aload_n (x := _) (pc2 := 81) dX12_finds_80 rfl rfl ?_
              refine ab_getI (pc2 := 84) rfl ht0 fa_X12_181 (by decide) dX12_finds_81 rfl ?_
              refine ab_aload_n (x := _) (pc2 := 85) dX12_finds_84 rfl rfl ?_
              refine ab_getI (pc2 := 88) rfl ht0 fa_X12_238 (by decide) dX12_finds_85 rfl ?_
              refine ab_icmp_lt (tgt := 94) (pc2 := 91) dX12_finds_88 (by decide) rfl hf (fun c15 hf => ?_) (fun c15 hf => ?_)
              · exact ab_weak (x_X12_finds_b94 ht0 ih hf) (ab_leS (ab_leS (ab_leS ab_le0)))
              · refine ab_goto (tgt := 107) dX12_finds_91 (by decide) ?_
                refine ab_iinc (pc2 := 110) (v := _ + 1) (lo2 := [some (va_rf _), some (.int _), some (.int _)]) dX12_finds_107 rfl rfl rfl (by decide) rfl ?_
                refine ab_goto (tgt := 8) dX12_finds_110 (by decide) ?_
                exact ab_weak (ih _ _ _ hf) (ab_leS (ab_leS (ab_leS ab_le0)))
      · refine ab_goto (tgt := 107) dX12_finds_42 (by decide) ?_
        refine ab_iinc (pc2 := 110) (v := _ + 1) (lo2 := [some (va_rf _), some (.int _), some (.int _)]) dX12_finds_107 rfl rfl rfl (by decide) rfl ?_
        refine ab_goto (tgt := 8) dX12_finds_110 (by decide) ?_
        exact ab_weak (ih _ _ _ hf) (ab_leS (ab_leS (ab_leS ab_le0)))
set_option maxHeartbeats 4000000 in
set_option maxRecDepth 100000 in
theorem x_X12_finds {d : Nat} {t0 : Nat} {i1 : Int32} {h : ab_HP} {r : (Int32 × ab_HP)} (ht0 : (ab_shp t0).1 = 5) (hf : f_X12_finds t0 i1 h = some r) : ab_T mX12_finds (d + 7) 0 0 0 0 0 [some (va_rf (some t0)), some (.int i1), none] [] h (ab_Pb r.1 r.2) := by
  unfold f_X12_finds at hf
  refine ab_aload_n (x := _) (pc2 := 1) dX12_finds_0 rfl rfl ?_
  refine ab_bipush (pc2 := 3) (v := (-4)) dX12_finds_1 rfl ab_k_bipush_m4 ?_
  obtain ⟨h1, eh1, hf⟩ := ab_let_x hf
  refine ab_putI (pc2 := 6) rfl ht0 fa_X12_232 (Or.inl rfl) (fun z => by cases z) dX12_finds_3 rfl ?_
  refine ab_topH eh1 ?_
  refine ab_iconst (pc2 := 7) (v := 0) dX12_finds_6 rfl ab_k_iconst_0 ?_
  refine ab_istore_n (pc2 := 8) (lo2 := [some (va_rf _), some (.int _), some (.int _)]) dX12_finds_7 rfl (by decide) rfl ?_
  exact ab_weak (x_X12_finds_l8 ht0 _ _ _ _ hf) (ab_leS (ab_leS (ab_leS ab_le0)))
set_option maxHeartbeats 4000000 in
set_option maxRecDepth 100000 in
theorem m_X12_finds {d : Nat} {t0 : Nat} {i1 : Int32} {h : ab_HP} {r : (Int32 × ab_HP)} (ht0 : (ab_shp t0).1 = 5) (hf : f_X12_finds t0 i1 h = some r) : ab_MET mX12_finds (d + 7) 0 0 [va_rf (some t0), .int i1] h (ab_Pb r.1 r.2) := ab_met (by decide +kernel) (by decide +kernel) (Nat.le_of_ble_eq_true rfl) rfl (x_X12_finds ht0 hf)
set_option maxHeartbeats 4000000 in
set_option maxRecDepth 100000 in
theorem x_X12_least {d : Nat} {t0 : Nat} {i1 : Int32} {i2 : Int32} {i3 : Int32} {h : ab_HP} {r : (Int32 × ab_HP)} (ht0 : (ab_shp t0).1 = 5) (hf : f_X12_least t0 i1 i2 i3 h = some r) : ab_T mX12_least (d + 8) 0 0 0 0 0 [some (va_rf (some t0)), some (.int i1), some (.int i2), some (.int i3), none] [] h (ab_Pi r.1 r.2) := by
  unfold f_X12_least at hf
  refine ab_iload_n (pc2 := 1) dX12_least_0 rfl rfl ?_
  obtain ⟨w1, ew1, hf⟩ := ab_bind hf
  refine ab_callS (pc2 := 4) (st := []) (m_X12_isShelf (d := (d + 6)) ew1) mf_X12_isShelf tw_103 tw_104 dX12_least_1 rfl (by omega) (Nat.le_refl _) (Nat.le_refl _) rfl (Nat.le_of_ble_eq_true rfl) (ab_kPb fun z2 => ?_)
  refine ab_if_eq (tgt := 31) (pc2 := 7) dX12_least_4 (by decide) rfl hf (fun c3 hf => ?_) (fun c3 hf => ?_)
  · refine ab_iconst (pc2 := 32) (v := (-1)) dX12_least_31 rfl ab_k_iconst_m1 ?_
    cases Option.some.inj hf
    exact ab_retI dX12_least_32 (Or.inl rfl) (Nat.le_refl _) (Nat.le_refl _) ⟨rfl, rfl⟩
  · refine ab_iload_n (pc2 := 8) dX12_least_7 rfl rfl ?_
    refine ab_i2l (pc2 := 9) dX12_least_8 rfl ?_
    refine ab_lconst (pc2 := 10) (v := 0) dX12_least_9 rfl rfl ?_
    refine ab_ldc2 (pc2 := 13) (v := 1023) dX12_least_10 rfl tw_248 ?_
    obtain ⟨w4, ew4, hf⟩ := ab_bind hf
    refine ab_callS (pc2 := 16) (st := []) (m_X12_isIn (d := (d + 7)) ew4) mf_X12_isIn tw_101 tw_102 dX12_least_13 rfl (by omega) (Nat.le_refl _) (Nat.le_refl _) rfl (Nat.le_of_ble_eq_true rfl) (ab_kPb fun z5 => ?_)
    refine ab_if_eq (tgt := 31) (pc2 := 19) dX12_least_16 (by decide) rfl hf (fun c6 hf => ?_) (fun c6 hf => ?_)
    · refine ab_iconst (pc2 := 32) (v := (-1)) dX12_least_31 rfl ab_k_iconst_m1 ?_
      cases Option.some.inj hf
      exact ab_retI dX12_least_32 (Or.inl rfl) (Nat.le_refl _) (Nat.le_refl _) ⟨rfl, rfl⟩
    · refine ab_iload_n (pc2 := 20) dX12_least_19 rfl rfl ?_
      refine ab_i2l (pc2 := 21) dX12_least_20 rfl ?_
      refine ab_lconst (pc2 := 22) (v := 0) dX12_least_21 rfl rfl ?_
      refine ab_ldc2 (pc2 := 25) (v := 2) dX12_least_22 rfl tw_143 ?_
      obtain ⟨w7, ew7, hf⟩ := ab_bind hf
      refine ab_callS (pc2 := 28) (st := []) (m_X12_isIn (d := (d + 7)) ew7) mf_X12_isIn tw_101 tw_102 dX12_least_25 rfl (by omega) (Nat.le_refl _) (Nat.le_refl _) rfl (Nat.le_of_ble_eq_true rfl) (ab_kPb fun z8 => ?_)
      refine ab_if_ne (tgt := 33) (pc2 := 31) dX12_least_28 (by decide) rfl hf (fun c9 hf => ?_) (fun c9 hf => ?_)
      · refine ab_aload_n (x := _) (pc2 := 34) dX12_least_33 rfl rfl ?_
        refine ab_iload_n (pc2 := 35) dX12_least_34 rfl rfl ?_
        obtain ⟨w10, ew10, hf⟩ := ab_bind hf
        refine ab_callV (pc2 := 38) (st := []) rfl ht0 (by decide) (m_X12_wrongList (d := (d + 4)) ht0 ew10) mf_X12_wrongList tw_226 tw_225 ts_X12_wrongList (Or.inl (by decide +kernel)) dX12_least_35 rfl (by omega) (Nat.le_refl _) (Nat.le_refl _) rfl (Nat.le_of_ble_eq_true rfl) (ab_kPi ?_)
        refine ab_istore (pc2 := 40) (lo2 := [some (va_rf _), some (.int _), some (.int _), some (.int _), some (.int _)]) dX12_least_38 rfl (by decide) rfl ?_
        refine ab_iload (pc2 := 42) dX12_least_40 rfl rfl ?_
        refine ab_if_eq (tgt := 48) (pc2 := 45) dX12_least_42 (by decide) rfl hf (fun c11 hf => ?_) (fun c11 hf => ?_)
        · refine ab_aload_n (x := _) (pc2 := 49) dX12_least_48 rfl rfl ?_
          refine ab_iload_n (pc2 := 50) dX12_least_49 rfl rfl ?_
          refine ab_iconst (pc2 := 51) (v := 0) dX12_least_50 rfl ab_k_iconst_0 ?_
          obtain ⟨w12, ew12, hf⟩ := ab_bind hf
          refine ab_callV (pc2 := 54) (st := []) rfl ht0 (by decide) (m_X12_lays (d := (d + 6)) ht0 ew12) mf_X12_lays tw_228 tw_227 ts_X12_lays (Or.inl (by decide +kernel)) dX12_least_51 rfl (by omega) (Nat.le_refl _) (Nat.le_refl _) rfl (Nat.le_of_ble_eq_true rfl) (ab_kPv ?_)
          refine ab_aload_n (x := _) (pc2 := 55) dX12_least_54 rfl rfl ?_
          refine ab_iload_n (pc2 := 56) dX12_least_55 rfl rfl ?_
          obtain ⟨w13, ew13, hf⟩ := ab_bind hf
          refine ab_callV (pc2 := 59) (st := []) rfl ht0 (by decide) (m_X12_finds (d := (d + 0)) ht0 ew13) mf_X12_finds tw_250 tw_249 ts_X12_finds (Or.inl (by decide +kernel)) dX12_least_56 rfl (by omega) (Nat.le_refl _) (Nat.le_refl _) rfl (Nat.le_of_ble_eq_true rfl) (ab_kPb fun z14 => ?_)
          refine ab_if_ne (tgt := 65) (pc2 := 62) dX12_least_59 (by decide) rfl hf (fun c15 hf => ?_) (fun c15 hf => ?_)
          · refine ab_iload_n (pc2 := 66) dX12_least_65 rfl rfl ?_
            refine ab_if_ne (tgt := 79) (pc2 := 69) dX12_least_66 (by decide) rfl hf (fun c16 hf => ?_) (fun c16 hf => ?_)
            · refine ab_iload_n (pc2 := 80) dX12_least_79 rfl rfl ?_
              refine ab_iconst (pc2 := 81) (v := 1) dX12_least_80 rfl ab_k_iconst_1 ?_
              refine ab_icmp_ne (tgt := 91) (pc2 := 84) dX12_least_81 (by decide) rfl hf (fun c17 hf => ?_) (fun c17 hf => ?_)
              · refine ab_aload_n (x := _) (pc2 := 92) dX12_least_91 rfl rfl ?_
                refine ab_getI (pc2 := 95) rfl ht0 fa_X12_232 (by decide) dX12_least_92 rfl ?_
                cases Option.some.inj hf
                exact ab_retI dX12_least_95 (Or.inl rfl) (Nat.le_refl _) (Nat.le_refl _) ⟨rfl, rfl⟩
              · refine ab_aload_n (x := _) (pc2 := 85) dX12_least_84 rfl rfl ?_
                refine ab_getI (pc2 := 88) rfl ht0 fa_X12_238 (by decide) dX12_least_85 rfl ?_
                refine ab_goto (tgt := 95) dX12_least_88 (by decide) ?_
                cases Option.some.inj hf
                exact ab_retI dX12_least_95 (Or.inl rfl) (Nat.le_refl _) (Nat.le_refl _) ⟨rfl, rfl⟩
            · refine ab_aload_n (x := _) (pc2 := 70) dX12_least_69 rfl rfl ?_
              refine ab_getI (pc2 := 73) rfl ht0 fa_X12_232 (by decide) dX12_least_70 rfl ?_
              obtain ⟨w18, ew18, hf⟩ := ab_bind hf
              refine ab_callS (pc2 := 76) (st := []) (m_X12_bits (d := (d + 7)) ew18) mf_X12_bits tw_246 tw_247 dX12_least_73 rfl (by omega) (Nat.le_refl _) (Nat.le_refl _) rfl (Nat.le_of_ble_eq_true rfl) (ab_kPi ?_)
              refine ab_goto (tgt := 95) dX12_least_76 (by decide) ?_
              cases Option.some.inj hf
              exact ab_retI dX12_least_95 (Or.inl rfl) (Nat.le_refl _) (Nat.le_refl _) ⟨rfl, rfl⟩
          · refine ab_bipush (pc2 := 64) (v := (-4)) dX12_least_62 rfl ab_k_bipush_m4 ?_
            cases Option.some.inj hf
            exact ab_retI dX12_least_64 (Or.inl rfl) (Nat.le_refl _) (Nat.le_refl _) ⟨rfl, rfl⟩
        · refine ab_iload (pc2 := 47) dX12_least_45 rfl rfl ?_
          cases Option.some.inj hf
          exact ab_retI dX12_least_47 (Or.inl rfl) (Nat.le_refl _) (Nat.le_refl _) ⟨rfl, rfl⟩
      · refine ab_iconst (pc2 := 32) (v := (-1)) dX12_least_31 rfl ab_k_iconst_m1 ?_
        cases Option.some.inj hf
        exact ab_retI dX12_least_32 (Or.inl rfl) (Nat.le_refl _) (Nat.le_refl _) ⟨rfl, rfl⟩
set_option maxHeartbeats 4000000 in
set_option maxRecDepth 100000 in
theorem m_X12_least {d : Nat} {t0 : Nat} {i1 : Int32} {i2 : Int32} {i3 : Int32} {h : ab_HP} {r : (Int32 × ab_HP)} (ht0 : (ab_shp t0).1 = 5) (hf : f_X12_least t0 i1 i2 i3 h = some r) : ab_MET mX12_least (d + 8) 0 0 [va_rf (some t0), .int i1, .int i2, .int i3] h (ab_Pi r.1 r.2) := ab_met (by decide +kernel) (by decide +kernel) (Nat.le_of_ble_eq_true rfl) rfl (x_X12_least ht0 hf)
