set_option maxHeartbeats 4000000 in
set_option maxRecDepth 100000 in
theorem x_X12_isDigit {d : Nat} {t0 : Nat} {h : ab_HP} {r : Int32} (ht0 : (ab_shp t0).1 = 5) (hf : f_X12_isDigit t0 h = some r) : ab_T mX12_isDigit (d + 1) 0 0 0 0 0 [some (va_rf (some t0))] [] h (ab_Pb r h) := by
  unfold f_X12_isDigit at hf
  refine ab_aload_n (x := _) (pc2 := 1) dX12_isDigit_0 rfl rfl ?_
  obtain ⟨w1, ew1, hf⟩ := ab_bind hf
  refine ab_callV (pc2 := 4) (st := []) rfl ht0 (by decide) (m_X12_here (d := (d + 0)) ht0 ew1) mf_X12_here tw_106 tw_105 ts_X12_here (Or.inl (by decide +kernel)) dX12_isDigit_1 rfl (by omega) (Nat.le_refl _) (Nat.le_refl _) rfl (Nat.le_of_ble_eq_true rfl) (ab_kPi ?_)
  refine ab_i2l (pc2 := 5) dX12_isDigit_4 rfl ?_
  refine ab_ldc2 (pc2 := 8) (v := 48) dX12_isDigit_5 rfl tw_107 ?_
  refine ab_ldc2 (pc2 := 11) (v := 57) dX12_isDigit_8 rfl tw_108 ?_
  obtain ⟨w2, ew2, hf⟩ := ab_bind hf
  refine ab_callS (pc2 := 14) (st := []) (m_X12_isIn (d := (d + 0)) ew2) mf_X12_isIn tw_101 tw_102 dX12_isDigit_11 rfl (by omega) (Nat.le_refl _) (Nat.le_refl _) rfl (Nat.le_of_ble_eq_true rfl) (ab_kPb fun z3 => ?_)
  cases Option.some.inj hf
  exact ab_retI dX12_isDigit_14 (Or.inr ⟨rfl, z3⟩) (Nat.le_refl _) (Nat.le_refl _) ⟨rfl, rfl, z3⟩
set_option maxHeartbeats 4000000 in
set_option maxRecDepth 100000 in
theorem m_X12_isDigit {d : Nat} {t0 : Nat} {h : ab_HP} {r : Int32} (ht0 : (ab_shp t0).1 = 5) (hf : f_X12_isDigit t0 h = some r) : ab_MET mX12_isDigit (d + 1) 0 0 [va_rf (some t0)] h (ab_Pb r h) := ab_met (by decide +kernel) (by decide +kernel) (Nat.le_of_ble_eq_true rfl) rfl (x_X12_isDigit ht0 hf)
set_option maxHeartbeats 4000000 in
set_option maxRecDepth 100000 in
theorem x_X12_readsNumber_b74 {d : Nat} {t0 : Nat} {i2 : Int32} {h : ab_HP} {r : (Int32 × ab_HP)} (ht0 : (ab_shp t0).1 = 5) (hf : f_X12_readsNumber_b74 t0 i2 h = some r) : ab_T mX12_readsNumber (d + 2) 0 0 0 0 74 [some (va_rf (some t0)), none, some (.int i2), none] [] h (ab_Pb r.1 r.2) := by
  unfold f_X12_readsNumber_b74 at hf
  refine ab_aload_n (x := _) (pc2 := 75) dX12_readsNumber_74 rfl rfl ?_
  refine ab_getR (pc2 := 78) rfl ht0 fa_X12_37 dX12_readsNumber_75 rfl (fun T14 => ?_)
  refine ab_aload_n (x := _) (pc2 := 79) dX12_readsNumber_78 rfl rfl ?_
  refine ab_getI (pc2 := 82) rfl ht0 fa_X12_94 (by decide) dX12_readsNumber_79 rfl ?_
  refine ab_iload_n (pc2 := 83) dX12_readsNumber_82 rfl rfl ?_
  obtain ⟨q15, hq15, hf⟩ := ab_bind hf
  obtain ⟨b16, hf⟩ := ab_guard hf
  obtain ⟨h17, eh17, hf⟩ := ab_let_x hf
  refine ab_iast (pc2 := 84) hq15 (T14 q15 hq15) (ab_in_vp b16) dX12_readsNumber_83 rfl ?_
  refine ab_topH eh17 ?_
  refine ab_aload_n (x := _) (pc2 := 85) dX12_readsNumber_84 rfl rfl ?_
  refine ab_dup (pc2 := 86) dX12_readsNumber_85 rfl (ab_rf1 _) ?_
  refine ab_getI (pc2 := 89) rfl ht0 fa_X12_94 (by decide) dX12_readsNumber_86 rfl ?_
  refine ab_iconst (pc2 := 90) (v := 1) dX12_readsNumber_89 rfl ab_k_iconst_1 ?_
  refine ab_iadd (pc2 := 91) dX12_readsNumber_90 rfl ?_
  obtain ⟨h18, eh18, hf⟩ := ab_let_x hf
  refine ab_putI (pc2 := 94) rfl ht0 fa_X12_94 (Or.inl rfl) (fun z => by cases z) dX12_readsNumber_91 rfl ?_
  refine ab_topH eh18 ?_
  refine ab_iconst (pc2 := 95) (v := 1) dX12_readsNumber_94 rfl ab_k_iconst_1 ?_
  cases Option.some.inj hf
  exact ab_retI dX12_readsNumber_95 (Or.inr ⟨rfl, (Or.inr rfl)⟩) (Nat.le_refl _) (Nat.le_refl _) ⟨rfl, rfl, (Or.inr rfl)⟩
set_option maxHeartbeats 4000000 in
set_option maxRecDepth 100000 in
theorem x_X12_readsNumber_l29 {d : Nat} {t0 : Nat} {r : (Int32 × ab_HP)} (ht0 : (ab_shp t0).1 = 5) : ∀ (n : Nat) (i1 : Int32) (i2 : Int32) (i3 : Int32) (h : ab_HP), f_X12_readsNumber_l29 t0 n i1 i2 i3 h = some r → ab_T mX12_readsNumber (d + 2) 0 0 0 0 29 [some (va_rf (some t0)), some (.int i1), some (.int i2), some (.int i3)] [] h (ab_Pb r.1 r.2) := by
  intro n
  induction n with
  | zero =>
    intro i1 i2 i3 h hf
    rw [f_X12_readsNumber_l29] at hf
    cases hf
  | succ n ih =>
    intro i1 i2 i3 h hf
    rw [f_X12_readsNumber_l29] at hf
    refine ab_iload_n (pc2 := 30) dX12_readsNumber_29 rfl rfl ?_
    refine ab_iload_n (pc2 := 31) dX12_readsNumber_30 rfl rfl ?_
    refine ab_icmp_ge (tgt := 74) (pc2 := 34) dX12_readsNumber_31 (by decide) rfl hf (fun c6 hf => ?_) (fun c6 hf => ?_)
    · exact ab_weak (x_X12_readsNumber_b74 ht0 hf) (ab_leS (ab_leN (ab_leS (ab_leN ab_le0))))
    · refine ab_iload_n (pc2 := 35) dX12_readsNumber_34 rfl rfl ?_
      refine ab_if_le (tgt := 74) (pc2 := 38) dX12_readsNumber_35 (by decide) rfl hf (fun c7 hf => ?_) (fun c7 hf => ?_)
      · exact ab_weak (x_X12_readsNumber_b74 ht0 hf) (ab_leS (ab_leN (ab_leS (ab_leN ab_le0))))
      · refine ab_aload_n (x := _) (pc2 := 39) dX12_readsNumber_38 rfl rfl ?_
        obtain ⟨w8, ew8, hf⟩ := ab_bind hf
        refine ab_callV (pc2 := 42) (st := []) rfl ht0 (by decide) (m_X12_isDigit (d := (d + 0)) ht0 ew8) mf_X12_isDigit tw_110 tw_109 ts_X12_isDigit (Or.inl (by decide +kernel)) dX12_readsNumber_39 rfl (by omega) (Nat.le_refl _) (Nat.le_refl _) rfl (Nat.le_of_ble_eq_true rfl) (ab_kPb fun z9 => ?_)
        refine ab_if_eq (tgt := 74) (pc2 := 45) dX12_readsNumber_42 (by decide) rfl hf (fun c10 hf => ?_) (fun c10 hf => ?_)
        · exact ab_weak (x_X12_readsNumber_b74 ht0 hf) (ab_leS (ab_leN (ab_leS (ab_leN ab_le0))))
        · refine ab_bipush (pc2 := 47) (v := 10) dX12_readsNumber_45 rfl ab_k_bipush_10 ?_
          refine ab_iload_n (pc2 := 48) dX12_readsNumber_47 rfl rfl ?_
          refine ab_imul (pc2 := 49) dX12_readsNumber_48 rfl ?_
          refine ab_aload_n (x := _) (pc2 := 50) dX12_readsNumber_49 rfl rfl ?_
          obtain ⟨w11, ew11, hf⟩ := ab_bind hf
          refine ab_callV (pc2 := 53) (st := [_]) rfl ht0 (by decide) (m_X12_here (d := (d + 1)) ht0 ew11) mf_X12_here tw_106 tw_105 ts_X12_here (Or.inl (by decide +kernel)) dX12_readsNumber_50 rfl (by omega) (Nat.le_refl _) (Nat.le_refl _) rfl (Nat.le_of_ble_eq_true rfl) (ab_kPi ?_)
          refine ab_iadd (pc2 := 54) dX12_readsNumber_53 rfl ?_
          refine ab_bipush (pc2 := 56) (v := 48) dX12_readsNumber_54 rfl ab_k_bipush_48 ?_
          refine ab_isub (pc2 := 57) dX12_readsNumber_56 rfl ?_
          obtain ⟨v12, ev12, hf⟩ := ab_let_x hf
          refine ab_topI ev12 ?_
          refine ab_istore_n (pc2 := 58) (lo2 := [some (va_rf _), some (.int _), some (.int _), some (.int _)]) dX12_readsNumber_57 rfl (by decide) rfl ?_
          refine ab_aload_n (x := _) (pc2 := 59) dX12_readsNumber_58 rfl rfl ?_
          refine ab_dup (pc2 := 60) dX12_readsNumber_59 rfl (ab_rf1 _) ?_
          refine ab_getI (pc2 := 63) rfl ht0 fa_X12_73 (by decide) dX12_readsNumber_60 rfl ?_
          refine ab_iconst (pc2 := 64) (v := 1) dX12_readsNumber_63 rfl ab_k_iconst_1 ?_
          refine ab_iadd (pc2 := 65) dX12_readsNumber_64 rfl ?_
          obtain ⟨h13, eh13, hf⟩ := ab_let_x hf
          refine ab_putI (pc2 := 68) rfl ht0 fa_X12_73 (Or.inl rfl) (fun z => by cases z) dX12_readsNumber_65 rfl ?_
          refine ab_topH eh13 ?_
          refine ab_iinc (pc2 := 71) (v := _ + 1) (lo2 := [some (va_rf _), some (.int _), some (.int _), some (.int _)]) dX12_readsNumber_68 rfl rfl rfl (by decide) rfl ?_
          refine ab_goto (tgt := 29) dX12_readsNumber_71 (by decide) ?_
          exact ab_weak (ih _ _ _ _ hf) (ab_leS (ab_leS (ab_leS (ab_leS ab_le0))))
set_option maxHeartbeats 4000000 in
set_option maxRecDepth 100000 in
theorem x_X12_readsNumber {d : Nat} {t0 : Nat} {i1 : Int32} {h : ab_HP} {r : (Int32 × ab_HP)} (ht0 : (ab_shp t0).1 = 5) (hf : f_X12_readsNumber t0 i1 h = some r) : ab_T mX12_readsNumber (d + 2) 0 0 0 0 0 [some (va_rf (some t0)), some (.int i1), none, none] [] h (ab_Pb r.1 r.2) := by
  unfold f_X12_readsNumber at hf
  refine ab_aload_n (x := _) (pc2 := 1) dX12_readsNumber_0 rfl rfl ?_
  obtain ⟨w1, ew1, hf⟩ := ab_bind hf
  refine ab_callV (pc2 := 4) (st := []) rfl ht0 (by decide) (m_X12_isDigit (d := (d + 0)) ht0 ew1) mf_X12_isDigit tw_110 tw_109 ts_X12_isDigit (Or.inl (by decide +kernel)) dX12_readsNumber_1 rfl (by omega) (Nat.le_refl _) (Nat.le_refl _) rfl (Nat.le_of_ble_eq_true rfl) (ab_kPb fun z2 => ?_)
  refine ab_if_ne (tgt := 9) (pc2 := 7) dX12_readsNumber_4 (by decide) rfl hf (fun c3 hf => ?_) (fun c3 hf => ?_)
  · refine ab_aload_n (x := _) (pc2 := 10) dX12_readsNumber_9 rfl rfl ?_
    obtain ⟨w4, ew4, hf⟩ := ab_bind hf
    refine ab_callV (pc2 := 13) (st := []) rfl ht0 (by decide) (m_X12_here (d := (d + 1)) ht0 ew4) mf_X12_here tw_106 tw_105 ts_X12_here (Or.inl (by decide +kernel)) dX12_readsNumber_10 rfl (by omega) (Nat.le_refl _) (Nat.le_refl _) rfl (Nat.le_of_ble_eq_true rfl) (ab_kPi ?_)
    refine ab_bipush (pc2 := 15) (v := 48) dX12_readsNumber_13 rfl ab_k_bipush_48 ?_
    refine ab_isub (pc2 := 16) dX12_readsNumber_15 rfl ?_
    refine ab_istore_n (pc2 := 17) (lo2 := [some (va_rf _), some (.int _), some (.int _), none]) dX12_readsNumber_16 rfl (by decide) rfl ?_
    refine ab_aload_n (x := _) (pc2 := 18) dX12_readsNumber_17 rfl rfl ?_
    refine ab_dup (pc2 := 19) dX12_readsNumber_18 rfl (ab_rf1 _) ?_
    refine ab_getI (pc2 := 22) rfl ht0 fa_X12_73 (by decide) dX12_readsNumber_19 rfl ?_
    refine ab_iconst (pc2 := 23) (v := 1) dX12_readsNumber_22 rfl ab_k_iconst_1 ?_
    refine ab_iadd (pc2 := 24) dX12_readsNumber_23 rfl ?_
    obtain ⟨h5, eh5, hf⟩ := ab_let_x hf
    refine ab_putI (pc2 := 27) rfl ht0 fa_X12_73 (Or.inl rfl) (fun z => by cases z) dX12_readsNumber_24 rfl ?_
    refine ab_topH eh5 ?_
    refine ab_iconst (pc2 := 28) (v := 1) dX12_readsNumber_27 rfl ab_k_iconst_1 ?_
    refine ab_istore_n (pc2 := 29) (lo2 := [some (va_rf _), some (.int _), some (.int _), some (.int _)]) dX12_readsNumber_28 rfl (by decide) rfl ?_
    exact ab_weak (x_X12_readsNumber_l29 ht0 _ _ _ _ _ hf) (ab_leS (ab_leS (ab_leS (ab_leS ab_le0))))
  · refine ab_iconst (pc2 := 8) (v := 0) dX12_readsNumber_7 rfl ab_k_iconst_0 ?_
    cases Option.some.inj hf
    exact ab_retI dX12_readsNumber_8 (Or.inr ⟨rfl, (Or.inl rfl)⟩) (Nat.le_refl _) (Nat.le_refl _) ⟨rfl, rfl, (Or.inl rfl)⟩
set_option maxHeartbeats 4000000 in
set_option maxRecDepth 100000 in
theorem m_X12_readsNumber {d : Nat} {t0 : Nat} {i1 : Int32} {h : ab_HP} {r : (Int32 × ab_HP)} (ht0 : (ab_shp t0).1 = 5) (hf : f_X12_readsNumber t0 i1 h = some r) : ab_MET mX12_readsNumber (d + 2) 0 0 [va_rf (some t0), .int i1] h (ab_Pb r.1 r.2) := ab_met (by decide +kernel) (by decide +kernel) (Nat.le_of_ble_eq_true rfl) rfl (x_X12_readsNumber ht0 hf)
set_option maxHeartbeats 4000000 in
set_option maxRecDepth 100000 in
theorem x_X12_takes {d : Nat} {t0 : Nat} {i1 : Int32} {h : ab_HP} {r : (Int32 × ab_HP)} (ht0 : (ab_shp t0).1 = 5) (hf : f_X12_takes t0 i1 h = some r) : ab_T mX12_takes (d + 1) 0 0 0 0 0 [some (va_rf (some t0)), some (.int i1)] [] h (ab_Pb r.1 r.2) := by
  unfold f_X12_takes at hf
  refine ab_aload_n (x := _) (pc2 := 1) dX12_takes_0 rfl rfl ?_
  obtain ⟨w1, ew1, hf⟩ := ab_bind hf
  refine ab_callV (pc2 := 4) (st := []) rfl ht0 (by decide) (m_X12_here (d := (d + 0)) ht0 ew1) mf_X12_here tw_106 tw_105 ts_X12_here (Or.inl (by decide +kernel)) dX12_takes_1 rfl (by omega) (Nat.le_refl _) (Nat.le_refl _) rfl (Nat.le_of_ble_eq_true rfl) (ab_kPi ?_)
  refine ab_iload_n (pc2 := 5) dX12_takes_4 rfl rfl ?_
  refine ab_icmp_eq (tgt := 10) (pc2 := 8) dX12_takes_5 (by decide) rfl hf (fun c2 hf => ?_) (fun c2 hf => ?_)
  · refine ab_aload_n (x := _) (pc2 := 11) dX12_takes_10 rfl rfl ?_
    refine ab_dup (pc2 := 12) dX12_takes_11 rfl (ab_rf1 _) ?_
    refine ab_getI (pc2 := 15) rfl ht0 fa_X12_73 (by decide) dX12_takes_12 rfl ?_
    refine ab_iconst (pc2 := 16) (v := 1) dX12_takes_15 rfl ab_k_iconst_1 ?_
    refine ab_iadd (pc2 := 17) dX12_takes_16 rfl ?_
    obtain ⟨h3, eh3, hf⟩ := ab_let_x hf
    refine ab_putI (pc2 := 20) rfl ht0 fa_X12_73 (Or.inl rfl) (fun z => by cases z) dX12_takes_17 rfl ?_
    refine ab_topH eh3 ?_
    refine ab_iconst (pc2 := 21) (v := 1) dX12_takes_20 rfl ab_k_iconst_1 ?_
    cases Option.some.inj hf
    exact ab_retI dX12_takes_21 (Or.inr ⟨rfl, (Or.inr rfl)⟩) (Nat.le_refl _) (Nat.le_refl _) ⟨rfl, rfl, (Or.inr rfl)⟩
  · refine ab_iconst (pc2 := 9) (v := 0) dX12_takes_8 rfl ab_k_iconst_0 ?_
    cases Option.some.inj hf
    exact ab_retI dX12_takes_9 (Or.inr ⟨rfl, (Or.inl rfl)⟩) (Nat.le_refl _) (Nat.le_refl _) ⟨rfl, rfl, (Or.inl rfl)⟩
set_option maxHeartbeats 4000000 in
set_option maxRecDepth 100000 in
theorem m_X12_takes {d : Nat} {t0 : Nat} {i1 : Int32} {h : ab_HP} {r : (Int32 × ab_HP)} (ht0 : (ab_shp t0).1 = 5) (hf : f_X12_takes t0 i1 h = some r) : ab_MET mX12_takes (d + 1) 0 0 [va_rf (some t0), .int i1] h (ab_Pb r.1 r.2) := ab_met (by decide +kernel) (by decide +kernel) (Nat.le_of_ble_eq_true rfl) rfl (x_X12_takes ht0 hf)
set_option maxHeartbeats 4000000 in
set_option maxRecDepth 100000 in
theorem x_X12_readsMark {d : Nat} {t0 : Nat} {h : ab_HP} {r : (Int32 × ab_HP)} (ht0 : (ab_shp t0).1 = 5) (hf : f_X12_readsMark t0 h = some r) : ab_T mX12_readsMark (d + 1) 0 0 0 0 0 [some (va_rf (some t0))] [] h (ab_Pb r.1 r.2) := by
  unfold f_X12_readsMark at hf
  refine ab_aload_n (x := _) (pc2 := 1) dX12_readsMark_0 rfl rfl ?_
  obtain ⟨w1, ew1, hf⟩ := ab_bind hf
  refine ab_callV (pc2 := 4) (st := []) rfl ht0 (by decide) (m_X12_here (d := (d + 0)) ht0 ew1) mf_X12_here tw_106 tw_105 ts_X12_here (Or.inl (by decide +kernel)) dX12_readsMark_1 rfl (by omega) (Nat.le_refl _) (Nat.le_refl _) rfl (Nat.le_of_ble_eq_true rfl) (ab_kPi ?_)
  refine ab_i2l (pc2 := 5) dX12_readsMark_4 rfl ?_
  refine ab_ldc2 (pc2 := 8) (v := 97) dX12_readsMark_5 rfl tw_111 ?_
  refine ab_ldc2 (pc2 := 11) (v := 106) dX12_readsMark_8 rfl tw_112 ?_
  obtain ⟨w2, ew2, hf⟩ := ab_bind hf
  refine ab_callS (pc2 := 14) (st := []) (m_X12_isIn (d := (d + 0)) ew2) mf_X12_isIn tw_101 tw_102 dX12_readsMark_11 rfl (by omega) (Nat.le_refl _) (Nat.le_refl _) rfl (Nat.le_of_ble_eq_true rfl) (ab_kPb fun z3 => ?_)
  refine ab_if_ne (tgt := 19) (pc2 := 17) dX12_readsMark_14 (by decide) rfl hf (fun c4 hf => ?_) (fun c4 hf => ?_)
  · refine ab_aload_n (x := _) (pc2 := 20) dX12_readsMark_19 rfl rfl ?_
    refine ab_getR (pc2 := 23) rfl ht0 fa_X12_37 dX12_readsMark_20 rfl (fun T5 => ?_)
    refine ab_aload_n (x := _) (pc2 := 24) dX12_readsMark_23 rfl rfl ?_
    refine ab_getI (pc2 := 27) rfl ht0 fa_X12_94 (by decide) dX12_readsMark_24 rfl ?_
    refine ab_aload_n (x := _) (pc2 := 28) dX12_readsMark_27 rfl rfl ?_
    obtain ⟨w6, ew6, hf⟩ := ab_bind hf
    refine ab_callV (pc2 := 31) (st := [_, _]) rfl ht0 (by decide) (m_X12_here (d := (d + 0)) ht0 ew6) mf_X12_here tw_106 tw_105 ts_X12_here (Or.inl (by decide +kernel)) dX12_readsMark_28 rfl (by omega) (Nat.le_refl _) (Nat.le_refl _) rfl (Nat.le_of_ble_eq_true rfl) (ab_kPi ?_)
    refine ab_bipush (pc2 := 33) (v := 97) dX12_readsMark_31 rfl ab_k_bipush_97 ?_
    refine ab_isub (pc2 := 34) dX12_readsMark_33 rfl ?_
    obtain ⟨q7, hq7, hf⟩ := ab_bind hf
    obtain ⟨b8, hf⟩ := ab_guard hf
    obtain ⟨h9, eh9, hf⟩ := ab_let_x hf
    refine ab_iast (pc2 := 35) hq7 (T5 q7 hq7) (ab_in_vp b8) dX12_readsMark_34 rfl ?_
    refine ab_topH eh9 ?_
    refine ab_aload_n (x := _) (pc2 := 36) dX12_readsMark_35 rfl rfl ?_
    refine ab_dup (pc2 := 37) dX12_readsMark_36 rfl (ab_rf1 _) ?_
    refine ab_getI (pc2 := 40) rfl ht0 fa_X12_94 (by decide) dX12_readsMark_37 rfl ?_
    refine ab_iconst (pc2 := 41) (v := 1) dX12_readsMark_40 rfl ab_k_iconst_1 ?_
    refine ab_iadd (pc2 := 42) dX12_readsMark_41 rfl ?_
    obtain ⟨h10, eh10, hf⟩ := ab_let_x hf
    refine ab_putI (pc2 := 45) rfl ht0 fa_X12_94 (Or.inl rfl) (fun z => by cases z) dX12_readsMark_42 rfl ?_
    refine ab_topH eh10 ?_
    refine ab_aload_n (x := _) (pc2 := 46) dX12_readsMark_45 rfl rfl ?_
    refine ab_dup (pc2 := 47) dX12_readsMark_46 rfl (ab_rf1 _) ?_
    refine ab_getI (pc2 := 50) rfl ht0 fa_X12_73 (by decide) dX12_readsMark_47 rfl ?_
    refine ab_iconst (pc2 := 51) (v := 1) dX12_readsMark_50 rfl ab_k_iconst_1 ?_
    refine ab_iadd (pc2 := 52) dX12_readsMark_51 rfl ?_
    obtain ⟨h11, eh11, hf⟩ := ab_let_x hf
    refine ab_putI (pc2 := 55) rfl ht0 fa_X12_73 (Or.inl rfl) (fun z => by cases z) dX12_readsMark_52 rfl ?_
    refine ab_topH eh11 ?_
    refine ab_iconst (pc2 := 56) (v := 1) dX12_readsMark_55 rfl ab_k_iconst_1 ?_
    cases Option.some.inj hf
    exact ab_retI dX12_readsMark_56 (Or.inr ⟨rfl, (Or.inr rfl)⟩) (Nat.le_refl _) (Nat.le_refl _) ⟨rfl, rfl, (Or.inr rfl)⟩
  · refine ab_iconst (pc2 := 18) (v := 0) dX12_readsMark_17 rfl ab_k_iconst_0 ?_
    cases Option.some.inj hf
    exact ab_retI dX12_readsMark_18 (Or.inr ⟨rfl, (Or.inl rfl)⟩) (Nat.le_refl _) (Nat.le_refl _) ⟨rfl, rfl, (Or.inl rfl)⟩
set_option maxHeartbeats 4000000 in
set_option maxRecDepth 100000 in
theorem m_X12_readsMark {d : Nat} {t0 : Nat} {h : ab_HP} {r : (Int32 × ab_HP)} (ht0 : (ab_shp t0).1 = 5) (hf : f_X12_readsMark t0 h = some r) : ab_MET mX12_readsMark (d + 1) 0 0 [va_rf (some t0)] h (ab_Pb r.1 r.2) := ab_met (by decide +kernel) (by decide +kernel) (Nat.le_of_ble_eq_true rfl) rfl (x_X12_readsMark ht0 hf)
set_option maxHeartbeats 4000000 in
set_option maxRecDepth 100000 in
theorem x_X12_readsDeed_l27 {d : Nat} {t0 : Nat} {r : (Int32 × ab_HP)} (ht0 : (ab_shp t0).1 = 5) : ∀ (n : Nat) (i1 : Int32) (h : ab_HP), f_X12_readsDeed_l27 t0 n i1 h = some r → ab_T mX12_readsDeed (d + 3) 0 0 0 0 27 [some (va_rf (some t0)), some (.int i1)] [] h (ab_Pb r.1 r.2) := by
  intro n
  induction n with
  | zero =>
    intro i1 h hf
    rw [f_X12_readsDeed_l27] at hf
    cases hf
  | succ n ih =>
    intro i1 h hf
    rw [f_X12_readsDeed_l27] at hf
    refine ab_aload_n (x := _) (pc2 := 28) dX12_readsDeed_27 rfl rfl ?_
    obtain ⟨w9, ew9, hf⟩ := ab_bind hf
    refine ab_callV (pc2 := 31) (st := []) rfl ht0 (by decide) (m_X12_here (d := (d + 2)) ht0 ew9) mf_X12_here tw_106 tw_105 ts_X12_here (Or.inl (by decide +kernel)) dX12_readsDeed_28 rfl (by omega) (Nat.le_refl _) (Nat.le_refl _) rfl (Nat.le_of_ble_eq_true rfl) (ab_kPi ?_)
    refine ab_i2l (pc2 := 32) dX12_readsDeed_31 rfl ?_
    refine ab_bipush (pc2 := 34) (v := 97) dX12_readsDeed_32 rfl ab_k_bipush_97 ?_
    refine ab_iload_n (pc2 := 35) dX12_readsDeed_34 rfl rfl ?_
    refine ab_iadd (pc2 := 36) dX12_readsDeed_35 rfl ?_
    refine ab_iconst (pc2 := 37) (v := 1) dX12_readsDeed_36 rfl ab_k_iconst_1 ?_
    refine ab_iadd (pc2 := 38) dX12_readsDeed_37 rfl ?_
    refine ab_i2l (pc2 := 39) dX12_readsDeed_38 rfl ?_
    refine ab_ldc2 (pc2 := 42) (v := 106) dX12_readsDeed_39 rfl tw_112 ?_
    obtain ⟨w10, ew10, hf⟩ := ab_bind hf
    refine ab_callS (pc2 := 45) (st := []) (m_X12_isIn (d := (d + 2)) ew10) mf_X12_isIn tw_101 tw_102 dX12_readsDeed_42 rfl (by omega) (Nat.le_refl _) (Nat.le_refl _) rfl (Nat.le_of_ble_eq_true rfl) (ab_kPb fun z11 => ?_)
    refine ab_if_eq (tgt := 81) (pc2 := 48) dX12_readsDeed_45 (by decide) rfl hf (fun c12 hf => ?_) (fun c12 hf => ?_)
    · refine ab_aload_n (x := _) (pc2 := 82) dX12_readsDeed_81 rfl rfl ?_
      refine ab_iconst (pc2 := 83) (v := 0) dX12_readsDeed_82 rfl ab_k_iconst_0 ?_
      obtain ⟨h13, eh13, hf⟩ := ab_let_x hf
      refine ab_putI (pc2 := 86) rfl ht0 fa_X12_94 (Or.inl rfl) (fun z => by cases z) dX12_readsDeed_83 rfl ?_
      refine ab_topH eh13 ?_
      refine ab_aload_n (x := _) (pc2 := 87) dX12_readsDeed_86 rfl rfl ?_
      refine ab_bipush (pc2 := 89) (v := 32) dX12_readsDeed_87 rfl ab_k_bipush_32 ?_
      obtain ⟨w14, ew14, hf⟩ := ab_bind hf
      refine ab_callV (pc2 := 92) (st := []) rfl ht0 (by decide) (m_X12_takes (d := (d + 1)) ht0 ew14) mf_X12_takes tw_116 tw_115 ts_X12_takes (Or.inl (by decide +kernel)) dX12_readsDeed_89 rfl (by omega) (Nat.le_refl _) (Nat.le_refl _) rfl (Nat.le_of_ble_eq_true rfl) (ab_kPb fun z15 => ?_)
      refine ab_if_eq (tgt := 127) (pc2 := 95) dX12_readsDeed_92 (by decide) rfl hf (fun c16 hf => ?_) (fun c16 hf => ?_)
      · refine ab_iconst (pc2 := 128) (v := 0) dX12_readsDeed_127 rfl ab_k_iconst_0 ?_
        cases Option.some.inj hf
        exact ab_retI dX12_readsDeed_128 (Or.inr ⟨rfl, (Or.inl rfl)⟩) (Nat.le_refl _) (Nat.le_refl _) ⟨rfl, rfl, (Or.inl rfl)⟩
      · refine ab_aload_n (x := _) (pc2 := 96) dX12_readsDeed_95 rfl rfl ?_
        obtain ⟨w17, ew17, hf⟩ := ab_bind hf
        refine ab_callV (pc2 := 99) (st := []) rfl ht0 (by decide) (m_X12_readsMark (d := (d + 1)) ht0 ew17) mf_X12_readsMark tw_118 tw_117 ts_X12_readsMark (Or.inl (by decide +kernel)) dX12_readsDeed_96 rfl (by omega) (Nat.le_refl _) (Nat.le_refl _) rfl (Nat.le_of_ble_eq_true rfl) (ab_kPb fun z18 => ?_)
        refine ab_if_eq (tgt := 127) (pc2 := 102) dX12_readsDeed_99 (by decide) rfl hf (fun c19 hf => ?_) (fun c19 hf => ?_)
        · refine ab_iconst (pc2 := 128) (v := 0) dX12_readsDeed_127 rfl ab_k_iconst_0 ?_
          cases Option.some.inj hf
          exact ab_retI dX12_readsDeed_128 (Or.inr ⟨rfl, (Or.inl rfl)⟩) (Nat.le_refl _) (Nat.le_refl _) ⟨rfl, rfl, (Or.inl rfl)⟩
        · refine ab_aload_n (x := _) (pc2 := 103) dX12_readsDeed_102 rfl rfl ?_
          refine ab_iconst (pc2 := 104) (v := 2) dX12_readsDeed_103 rfl ab_k_iconst_2 ?_
          obtain ⟨w20, ew20, hf⟩ := ab_bind hf
          refine ab_callV (pc2 := 107) (st := []) rfl ht0 (by decide) (m_X12_readsNumber (d := (d + 0)) ht0 ew20) mf_X12_readsNumber tw_114 tw_113 ts_X12_readsNumber (Or.inl (by decide +kernel)) dX12_readsDeed_104 rfl (by omega) (Nat.le_refl _) (Nat.le_refl _) rfl (Nat.le_of_ble_eq_true rfl) (ab_kPb fun z21 => ?_)
          refine ab_if_eq (tgt := 127) (pc2 := 110) dX12_readsDeed_107 (by decide) rfl hf (fun c22 hf => ?_) (fun c22 hf => ?_)
          · refine ab_iconst (pc2 := 128) (v := 0) dX12_readsDeed_127 rfl ab_k_iconst_0 ?_
            cases Option.some.inj hf
            exact ab_retI dX12_readsDeed_128 (Or.inr ⟨rfl, (Or.inl rfl)⟩) (Nat.le_refl _) (Nat.le_refl _) ⟨rfl, rfl, (Or.inl rfl)⟩
          · refine ab_aload_n (x := _) (pc2 := 111) dX12_readsDeed_110 rfl rfl ?_
            refine ab_bipush (pc2 := 113) (v := 32) dX12_readsDeed_111 rfl ab_k_bipush_32 ?_
            obtain ⟨w23, ew23, hf⟩ := ab_bind hf
            refine ab_callV (pc2 := 116) (st := []) rfl ht0 (by decide) (m_X12_takes (d := (d + 1)) ht0 ew23) mf_X12_takes tw_116 tw_115 ts_X12_takes (Or.inl (by decide +kernel)) dX12_readsDeed_113 rfl (by omega) (Nat.le_refl _) (Nat.le_refl _) rfl (Nat.le_of_ble_eq_true rfl) (ab_kPb fun z24 => ?_)
            refine ab_if_eq (tgt := 127) (pc2 := 119) dX12_readsDeed_116 (by decide) rfl hf (fun c25 hf => ?_) (fun c25 hf => ?_)
            · refine ab_iconst (pc2 := 128) (v := 0) dX12_readsDeed_127 rfl ab_k_iconst_0 ?_
              cases Option.some.inj hf
              exact ab_retI dX12_readsDeed_128 (Or.inr ⟨rfl, (Or.inl rfl)⟩) (Nat.le_refl _) (Nat.le_refl _) ⟨rfl, rfl, (Or.inl rfl)⟩
            · refine ab_aload_n (x := _) (pc2 := 120) dX12_readsDeed_119 rfl rfl ?_
              refine ab_iconst (pc2 := 121) (v := 1) dX12_readsDeed_120 rfl ab_k_iconst_1 ?_
              obtain ⟨w26, ew26, hf⟩ := ab_bind hf
              refine ab_callV (pc2 := 124) (st := []) rfl ht0 (by decide) (m_X12_readsNumber (d := (d + 0)) ht0 ew26) mf_X12_readsNumber tw_114 tw_113 ts_X12_readsNumber (Or.inl (by decide +kernel)) dX12_readsDeed_121 rfl (by omega) (Nat.le_refl _) (Nat.le_refl _) rfl (Nat.le_of_ble_eq_true rfl) (ab_kPb fun z27 => ?_)
              refine ab_if_ne (tgt := 129) (pc2 := 127) dX12_readsDeed_124 (by decide) rfl hf (fun c28 hf => ?_) (fun c28 hf => ?_)
              · refine ab_aload_n (x := _) (pc2 := 130) dX12_readsDeed_129 rfl rfl ?_
                refine ab_aload_n (x := _) (pc2 := 131) dX12_readsDeed_130 rfl rfl ?_
                refine ab_getR (pc2 := 134) rfl ht0 fa_X12_37 dX12_readsDeed_131 rfl (fun T29 => ?_)
                refine ab_iconst (pc2 := 135) (v := 2) dX12_readsDeed_134 rfl ab_k_iconst_2 ?_
                obtain ⟨q30, hq30, hf⟩ := ab_bind hf
                obtain ⟨b31, hf⟩ := ab_guard hf
                refine ab_iald (pc2 := 136) hq30 (T29 q30 hq30) (ab_in_vp b31) dX12_readsDeed_135 rfl ?_
                obtain ⟨h32, eh32, hf⟩ := ab_let_x hf
                refine ab_putI (pc2 := 139) rfl ht0 fa_X12_117 (Or.inl rfl) (fun z => by cases z) dX12_readsDeed_136 rfl ?_
                refine ab_topH eh32 ?_
                refine ab_iconst (pc2 := 140) (v := 1) dX12_readsDeed_139 rfl ab_k_iconst_1 ?_
                cases Option.some.inj hf
                exact ab_retI dX12_readsDeed_140 (Or.inr ⟨rfl, (Or.inr rfl)⟩) (Nat.le_refl _) (Nat.le_refl _) ⟨rfl, rfl, (Or.inr rfl)⟩
              · refine ab_iconst (pc2 := 128) (v := 0) dX12_readsDeed_127 rfl ab_k_iconst_0 ?_
                cases Option.some.inj hf
                exact ab_retI dX12_readsDeed_128 (Or.inr ⟨rfl, (Or.inl rfl)⟩) (Nat.le_refl _) (Nat.le_refl _) ⟨rfl, rfl, (Or.inl rfl)⟩
    · refine ab_aload_n (x := _) (pc2 := 49) dX12_readsDeed_48 rfl rfl ?_
      obtain ⟨w33, ew33, hf⟩ := ab_bind hf
      refine ab_callV (pc2 := 52) (st := []) rfl ht0 (by decide) (m_X12_here (d := (d + 2)) ht0 ew33) mf_X12_here tw_106 tw_105 ts_X12_here (Or.inl (by decide +kernel)) dX12_readsDeed_49 rfl (by omega) (Nat.le_refl _) (Nat.le_refl _) rfl (Nat.le_of_ble_eq_true rfl) (ab_kPi ?_)
      refine ab_bipush (pc2 := 54) (v := 97) dX12_readsDeed_52 rfl ab_k_bipush_97 ?_
      refine ab_isub (pc2 := 55) dX12_readsDeed_54 rfl ?_
      refine ab_istore_n (pc2 := 56) (lo2 := [some (va_rf _), some (.int _)]) dX12_readsDeed_55 rfl (by decide) rfl ?_
      refine ab_aload_n (x := _) (pc2 := 57) dX12_readsDeed_56 rfl rfl ?_
      refine ab_dup (pc2 := 58) dX12_readsDeed_57 rfl (ab_rf1 _) ?_
      refine ab_getI (pc2 := 61) rfl ht0 fa_X12_108 (by decide) dX12_readsDeed_58 rfl ?_
      refine ab_iconst (pc2 := 62) (v := 1) dX12_readsDeed_61 rfl ab_k_iconst_1 ?_
      refine ab_iload_n (pc2 := 63) dX12_readsDeed_62 rfl rfl ?_
      refine ab_ishl (pc2 := 64) dX12_readsDeed_63 rfl ?_
      refine ab_ior (pc2 := 65) dX12_readsDeed_64 rfl ?_
      obtain ⟨h34, eh34, hf⟩ := ab_let_x hf
      refine ab_putI (pc2 := 68) rfl ht0 fa_X12_108 (Or.inl rfl) (fun z => by cases z) dX12_readsDeed_65 rfl ?_
      refine ab_topH eh34 ?_
      refine ab_aload_n (x := _) (pc2 := 69) dX12_readsDeed_68 rfl rfl ?_
      refine ab_dup (pc2 := 70) dX12_readsDeed_69 rfl (ab_rf1 _) ?_
      refine ab_getI (pc2 := 73) rfl ht0 fa_X12_73 (by decide) dX12_readsDeed_70 rfl ?_
      refine ab_iconst (pc2 := 74) (v := 1) dX12_readsDeed_73 rfl ab_k_iconst_1 ?_
      refine ab_iadd (pc2 := 75) dX12_readsDeed_74 rfl ?_
      obtain ⟨h35, eh35, hf⟩ := ab_let_x hf
      refine ab_putI (pc2 := 78) rfl ht0 fa_X12_73 (Or.inl rfl) (fun z => by cases z) dX12_readsDeed_75 rfl ?_
      refine ab_topH eh35 ?_
      refine ab_goto (tgt := 27) dX12_readsDeed_78 (by decide) ?_
      exact ab_weak (ih _ _ hf) (ab_leS (ab_leS ab_le0))
set_option maxHeartbeats 4000000 in
set_option maxRecDepth 100000 in
theorem x_X12_readsDeed {d : Nat} {t0 : Nat} {h : ab_HP} {r : (Int32 × ab_HP)} (ht0 : (ab_shp t0).1 = 5) (hf : f_X12_readsDeed t0 h = some r) : ab_T mX12_readsDeed (d + 3) 0 0 0 0 0 [some (va_rf (some t0)), none] [] h (ab_Pb r.1 r.2) := by
  unfold f_X12_readsDeed at hf
  refine ab_aload_n (x := _) (pc2 := 1) dX12_readsDeed_0 rfl rfl ?_
  refine ab_iconst (pc2 := 2) (v := 1) dX12_readsDeed_1 rfl ab_k_iconst_1 ?_
  obtain ⟨w1, ew1, hf⟩ := ab_bind hf
  refine ab_callV (pc2 := 5) (st := []) rfl ht0 (by decide) (m_X12_readsNumber (d := (d + 0)) ht0 ew1) mf_X12_readsNumber tw_114 tw_113 ts_X12_readsNumber (Or.inl (by decide +kernel)) dX12_readsDeed_2 rfl (by omega) (Nat.le_refl _) (Nat.le_refl _) rfl (Nat.le_of_ble_eq_true rfl) (ab_kPb fun z2 => ?_)
  refine ab_if_ne (tgt := 10) (pc2 := 8) dX12_readsDeed_5 (by decide) rfl hf (fun c3 hf => ?_) (fun c3 hf => ?_)
  · refine ab_aload_n (x := _) (pc2 := 11) dX12_readsDeed_10 rfl rfl ?_
    refine ab_aload_n (x := _) (pc2 := 12) dX12_readsDeed_11 rfl rfl ?_
    refine ab_getR (pc2 := 15) rfl ht0 fa_X12_37 dX12_readsDeed_12 rfl (fun T4 => ?_)
    refine ab_iconst (pc2 := 16) (v := 0) dX12_readsDeed_15 rfl ab_k_iconst_0 ?_
    obtain ⟨q5, hq5, hf⟩ := ab_bind hf
    obtain ⟨b6, hf⟩ := ab_guard hf
    refine ab_iald (pc2 := 17) hq5 (T4 q5 hq5) (ab_in_vp b6) dX12_readsDeed_16 rfl ?_
    obtain ⟨h7, eh7, hf⟩ := ab_let_x hf
    refine ab_putI (pc2 := 20) rfl ht0 fa_X12_105 (Or.inl rfl) (fun z => by cases z) dX12_readsDeed_17 rfl ?_
    refine ab_topH eh7 ?_
    refine ab_aload_n (x := _) (pc2 := 21) dX12_readsDeed_20 rfl rfl ?_
    refine ab_iconst (pc2 := 22) (v := 0) dX12_readsDeed_21 rfl ab_k_iconst_0 ?_
    obtain ⟨h8, eh8, hf⟩ := ab_let_x hf
    refine ab_putI (pc2 := 25) rfl ht0 fa_X12_108 (Or.inl rfl) (fun z => by cases z) dX12_readsDeed_22 rfl ?_
    refine ab_topH eh8 ?_
    refine ab_iconst (pc2 := 26) (v := (-1)) dX12_readsDeed_25 rfl ab_k_iconst_m1 ?_
    refine ab_istore_n (pc2 := 27) (lo2 := [some (va_rf _), some (.int _)]) dX12_readsDeed_26 rfl (by decide) rfl ?_
    exact ab_weak (x_X12_readsDeed_l27 ht0 _ _ _ hf) (ab_leS (ab_leS ab_le0))
  · refine ab_iconst (pc2 := 9) (v := 0) dX12_readsDeed_8 rfl ab_k_iconst_0 ?_
    cases Option.some.inj hf
    exact ab_retI dX12_readsDeed_9 (Or.inr ⟨rfl, (Or.inl rfl)⟩) (Nat.le_refl _) (Nat.le_refl _) ⟨rfl, rfl, (Or.inl rfl)⟩
set_option maxHeartbeats 4000000 in
set_option maxRecDepth 100000 in
theorem m_X12_readsDeed {d : Nat} {t0 : Nat} {h : ab_HP} {r : (Int32 × ab_HP)} (ht0 : (ab_shp t0).1 = 5) (hf : f_X12_readsDeed t0 h = some r) : ab_MET mX12_readsDeed (d + 3) 0 0 [va_rf (some t0)] h (ab_Pb r.1 r.2) := ab_met (by decide +kernel) (by decide +kernel) (Nat.le_of_ble_eq_true rfl) rfl (x_X12_readsDeed ht0 hf)
set_option maxHeartbeats 4000000 in
set_option maxRecDepth 100000 in
theorem x_X12_readsStatement_b211 {d : Nat} {t0 : Nat} {i2 : Int32} {h : ab_HP} {r : (Int32 × ab_HP)} (ht0 : (ab_shp t0).1 = 5) (hf : f_X12_readsStatement_b211 t0 i2 h = some r) : ab_T mX12_readsStatement (d + 4) 0 0 0 0 211 [some (va_rf (some t0)), none, some (.int i2), none] [] h (ab_Pb r.1 r.2) := by
  unfold f_X12_readsStatement_b211 at hf
  refine ab_iload_n (pc2 := 212) dX12_readsStatement_211 rfl rfl ?_
  refine ab_if_eq (tgt := 228) (pc2 := 215) dX12_readsStatement_212 (by decide) rfl hf (fun c41 hf => ?_) (fun c41 hf => ?_)
  · refine ab_iconst (pc2 := 229) (v := 0) dX12_readsStatement_228 rfl ab_k_iconst_0 ?_
    cases Option.some.inj hf
    exact ab_retI dX12_readsStatement_229 (Or.inr ⟨rfl, (Or.inl rfl)⟩) (Nat.le_refl _) (Nat.le_refl _) ⟨rfl, rfl, (Or.inl rfl)⟩
  · refine ab_aload_n (x := _) (pc2 := 216) dX12_readsStatement_215 rfl rfl ?_
    refine ab_bipush (pc2 := 218) (v := 59) dX12_readsStatement_216 rfl ab_k_bipush_59 ?_
    obtain ⟨w42, ew42, hf⟩ := ab_bind hf
    refine ab_callV (pc2 := 221) (st := []) rfl ht0 (by decide) (m_X12_takes (d := (d + 2)) ht0 ew42) mf_X12_takes tw_116 tw_115 ts_X12_takes (Or.inl (by decide +kernel)) dX12_readsStatement_218 rfl (by omega) (Nat.le_refl _) (Nat.le_refl _) rfl (Nat.le_of_ble_eq_true rfl) (ab_kPb fun z43 => ?_)
    refine ab_if_eq (tgt := 228) (pc2 := 224) dX12_readsStatement_221 (by decide) rfl hf (fun c44 hf => ?_) (fun c44 hf => ?_)
    · refine ab_iconst (pc2 := 229) (v := 0) dX12_readsStatement_228 rfl ab_k_iconst_0 ?_
      cases Option.some.inj hf
      exact ab_retI dX12_readsStatement_229 (Or.inr ⟨rfl, (Or.inl rfl)⟩) (Nat.le_refl _) (Nat.le_refl _) ⟨rfl, rfl, (Or.inl rfl)⟩
    · refine ab_iconst (pc2 := 225) (v := 1) dX12_readsStatement_224 rfl ab_k_iconst_1 ?_
      refine ab_goto (tgt := 229) dX12_readsStatement_225 (by decide) ?_
      cases Option.some.inj hf
      exact ab_retI dX12_readsStatement_229 (Or.inr ⟨rfl, (Or.inr rfl)⟩) (Nat.le_refl _) (Nat.le_refl _) ⟨rfl, rfl, (Or.inr rfl)⟩
set_option maxHeartbeats 4000000 in
set_option maxRecDepth 100000 in
theorem x_X12_readsStatement_b184 {d : Nat} {t0 : Nat} {i3 : Int32} {h : ab_HP} {r : (Int32 × ab_HP)} (ht0 : (ab_shp t0).1 = 5) (hf : f_X12_readsStatement_b184 t0 i3 h = some r) : ab_T mX12_readsStatement (d + 4) 0 0 0 0 184 [some (va_rf (some t0)), none, none, some (.int i3)] [] h (ab_Pb r.1 r.2) := by
  unfold f_X12_readsStatement_b184 at hf
  refine ab_aload_n (x := _) (pc2 := 185) dX12_readsStatement_184 rfl rfl ?_
  refine ab_iconst (pc2 := 186) (v := 1) dX12_readsStatement_185 rfl ab_k_iconst_1 ?_
  obtain ⟨w45, ew45, hf⟩ := ab_bind hf
  refine ab_callV (pc2 := 189) (st := []) rfl ht0 (by decide) (m_X12_readsNumber (d := (d + 1)) ht0 ew45) mf_X12_readsNumber tw_114 tw_113 ts_X12_readsNumber (Or.inl (by decide +kernel)) dX12_readsStatement_186 rfl (by omega) (Nat.le_refl _) (Nat.le_refl _) rfl (Nat.le_of_ble_eq_true rfl) (ab_kPb fun z46 => ?_)
  refine ab_istore_n (pc2 := 190) (lo2 := [some (va_rf _), none, some (.int _), some (.int _)]) dX12_readsStatement_189 rfl (by decide) rfl ?_
  refine ab_iload_n (pc2 := 191) dX12_readsStatement_190 rfl rfl ?_
  refine ab_if_eq (tgt := 211) (pc2 := 194) dX12_readsStatement_191 (by decide) rfl hf (fun c47 hf => ?_) (fun c47 hf => ?_)
  · exact ab_weak (x_X12_readsStatement_b211 ht0 hf) (ab_leS (ab_leN (ab_leS (ab_leN ab_le0))))
  · refine ab_iload_n (pc2 := 195) dX12_readsStatement_194 rfl rfl ?_
    refine ab_if_eq (tgt := 211) (pc2 := 198) dX12_readsStatement_195 (by decide) rfl hf (fun c48 hf => ?_) (fun c48 hf => ?_)
    · exact ab_weak (x_X12_readsStatement_b211 ht0 hf) (ab_leS (ab_leN (ab_leS (ab_leN ab_le0))))
    · refine ab_aload_n (x := _) (pc2 := 199) dX12_readsStatement_198 rfl rfl ?_
      refine ab_getR (pc2 := 202) rfl ht0 fa_X12_37 dX12_readsStatement_199 rfl (fun T49 => ?_)
      refine ab_iconst (pc2 := 203) (v := 1) dX12_readsStatement_202 rfl ab_k_iconst_1 ?_
      refine ab_aload_n (x := _) (pc2 := 204) dX12_readsStatement_203 rfl rfl ?_
      refine ab_getR (pc2 := 207) rfl ht0 fa_X12_37 dX12_readsStatement_204 rfl (fun T50 => ?_)
      refine ab_iconst (pc2 := 208) (v := 1) dX12_readsStatement_207 rfl ab_k_iconst_1 ?_
      obtain ⟨q51, hq51, hf⟩ := ab_bind hf
      obtain ⟨b52, hf⟩ := ab_guard hf
      refine ab_iald (pc2 := 209) hq51 (T50 q51 hq51) (ab_in_vp b52) dX12_readsStatement_208 rfl ?_
      refine ab_ineg (pc2 := 210) dX12_readsStatement_209 rfl ?_
      obtain ⟨b53, hf⟩ := ab_guard hf
      obtain ⟨h54, eh54, hf⟩ := ab_let_x hf
      refine ab_iast (pc2 := 211) hq51 (T50 q51 hq51) (ab_in_vp b53) dX12_readsStatement_210 rfl ?_
      refine ab_topH eh54 ?_
      exact ab_weak (x_X12_readsStatement_b211 ht0 hf) (ab_leS (ab_leN (ab_leS (ab_leN ab_le0))))
set_option maxHeartbeats 4000000 in
set_option maxRecDepth 100000 in
theorem x_X12_readsStatement_b42 {d : Nat} {t0 : Nat} {i1 : Int32} {h : ab_HP} {r : (Int32 × ab_HP)} (ht0 : (ab_shp t0).1 = 5) (hf : f_X12_readsStatement_b42 t0 i1 h = some r) : ab_T mX12_readsStatement (d + 4) 0 0 0 0 42 [some (va_rf (some t0)), some (.int i1), none, none] [] h (ab_Pb r.1 r.2) := by
  unfold f_X12_readsStatement_b42 at hf
  refine ab_aload_n (x := _) (pc2 := 43) dX12_readsStatement_42 rfl rfl ?_
  refine ab_dup (pc2 := 44) dX12_readsStatement_43 rfl (ab_rf1 _) ?_
  refine ab_getI (pc2 := 47) rfl ht0 fa_X12_73 (by decide) dX12_readsStatement_44 rfl ?_
  refine ab_iconst (pc2 := 48) (v := 1) dX12_readsStatement_47 rfl ab_k_iconst_1 ?_
  refine ab_iadd (pc2 := 49) dX12_readsStatement_48 rfl ?_
  obtain ⟨h8, eh8, hf⟩ := ab_let_x hf
  refine ab_putI (pc2 := 52) rfl ht0 fa_X12_73 (Or.inl rfl) (fun z => by cases z) dX12_readsStatement_49 rfl ?_
  refine ab_topH eh8 ?_
  refine ab_iconst (pc2 := 53) (v := 0) dX12_readsStatement_52 rfl ab_k_iconst_0 ?_
  refine ab_istore_n (pc2 := 54) (lo2 := [some (va_rf _), some (.int _), some (.int _), none]) dX12_readsStatement_53 rfl (by decide) rfl ?_
  refine ab_iload_n (pc2 := 55) dX12_readsStatement_54 rfl rfl ?_
  rcases ab_cas hf with ⟨s9, hf⟩ | ⟨s9, hf⟩
  · refine ab_lswK (tgt := 112) (off := 57) dX12_readsStatement_55 s9 (by decide +kernel) (by decide +kernel) (by decide) ?_
    refine ab_aload_n (x := _) (pc2 := 113) dX12_readsStatement_112 rfl rfl ?_
    refine ab_iconst (pc2 := 114) (v := 4) dX12_readsStatement_113 rfl ab_k_iconst_4 ?_
    obtain ⟨w10, ew10, hf⟩ := ab_bind hf
    refine ab_callV (pc2 := 117) (st := []) rfl ht0 (by decide) (m_X12_readsNumber (d := (d + 1)) ht0 ew10) mf_X12_readsNumber tw_114 tw_113 ts_X12_readsNumber (Or.inl (by decide +kernel)) dX12_readsStatement_114 rfl (by omega) (Nat.le_refl _) (Nat.le_refl _) rfl (Nat.le_of_ble_eq_true rfl) (ab_kPb fun z11 => ?_)
    refine ab_istore_n (pc2 := 118) (lo2 := [some (va_rf _), some (.int _), some (.int _), none]) dX12_readsStatement_117 rfl (by decide) rfl ?_
    refine ab_goto (tgt := 211) dX12_readsStatement_118 (by decide) ?_
    exact ab_weak (x_X12_readsStatement_b211 ht0 hf) (ab_leS (ab_leN (ab_leS (ab_leN ab_le0))))
  rcases ab_cas hf with ⟨s12, hf⟩ | ⟨s12, hf⟩
  · refine ab_lswK (tgt := 96) (off := 41) dX12_readsStatement_55 s12 (by decide +kernel) (by decide +kernel) (by decide) ?_
    refine ab_aload_n (x := _) (pc2 := 97) dX12_readsStatement_96 rfl rfl ?_
    obtain ⟨w13, ew13, hf⟩ := ab_bind hf
    refine ab_callV (pc2 := 100) (st := []) rfl ht0 (by decide) (m_X12_readsDeed (d := (d + 0)) ht0 ew13) mf_X12_readsDeed tw_120 tw_119 ts_X12_readsDeed (Or.inl (by decide +kernel)) dX12_readsStatement_97 rfl (by omega) (Nat.le_refl _) (Nat.le_refl _) rfl (Nat.le_of_ble_eq_true rfl) (ab_kPb fun z14 => ?_)
    refine ab_istore_n (pc2 := 101) (lo2 := [some (va_rf _), some (.int _), some (.int _), none]) dX12_readsStatement_100 rfl (by decide) rfl ?_
    refine ab_goto (tgt := 211) dX12_readsStatement_101 (by decide) ?_
    exact ab_weak (x_X12_readsStatement_b211 ht0 hf) (ab_leS (ab_leN (ab_leS (ab_leN ab_le0))))
  rcases ab_cas hf with ⟨s15, hf⟩ | ⟨s15, hf⟩
  · refine ab_lswK (tgt := 121) (off := 66) dX12_readsStatement_55 s15 (by decide +kernel) (by decide +kernel) (by decide) ?_
    refine ab_aload_n (x := _) (pc2 := 122) dX12_readsStatement_121 rfl rfl ?_
    refine ab_iconst (pc2 := 123) (v := 1) dX12_readsStatement_122 rfl ab_k_iconst_1 ?_
    obtain ⟨w16, ew16, hf⟩ := ab_bind hf
    refine ab_callV (pc2 := 126) (st := []) rfl ht0 (by decide) (m_X12_readsNumber (d := (d + 1)) ht0 ew16) mf_X12_readsNumber tw_114 tw_113 ts_X12_readsNumber (Or.inl (by decide +kernel)) dX12_readsStatement_123 rfl (by omega) (Nat.le_refl _) (Nat.le_refl _) rfl (Nat.le_of_ble_eq_true rfl) (ab_kPb fun z17 => ?_)
    refine ab_istore_n (pc2 := 127) (lo2 := [some (va_rf _), some (.int _), some (.int _), none]) dX12_readsStatement_126 rfl (by decide) rfl ?_
    refine ab_goto (tgt := 211) dX12_readsStatement_127 (by decide) ?_
    exact ab_weak (x_X12_readsStatement_b211 ht0 hf) (ab_leS (ab_leN (ab_leS (ab_leN ab_le0))))
  rcases ab_cas hf with ⟨s18, hf⟩ | ⟨s18, hf⟩
  · refine ab_lswK (tgt := 104) (off := 49) dX12_readsStatement_55 s18 (by decide +kernel) (by decide +kernel) (by decide) ?_
    refine ab_aload_n (x := _) (pc2 := 105) dX12_readsStatement_104 rfl rfl ?_
    obtain ⟨w19, ew19, hf⟩ := ab_bind hf
    refine ab_callV (pc2 := 108) (st := []) rfl ht0 (by decide) (m_X12_readsMark (d := (d + 2)) ht0 ew19) mf_X12_readsMark tw_118 tw_117 ts_X12_readsMark (Or.inl (by decide +kernel)) dX12_readsStatement_105 rfl (by omega) (Nat.le_refl _) (Nat.le_refl _) rfl (Nat.le_of_ble_eq_true rfl) (ab_kPb fun z20 => ?_)
    refine ab_istore_n (pc2 := 109) (lo2 := [some (va_rf _), some (.int _), some (.int _), none]) dX12_readsStatement_108 rfl (by decide) rfl ?_
    refine ab_goto (tgt := 211) dX12_readsStatement_109 (by decide) ?_
    exact ab_weak (x_X12_readsStatement_b211 ht0 hf) (ab_leS (ab_leN (ab_leS (ab_leN ab_le0))))
  refine ab_lsw (tgt := 130) (off := 75) dX12_readsStatement_55 (by decide +kernel) (by show Op.lookupswitch.offset [(99, 57), (100, 41), (108, 66), (109, 49)] _ _ = _; rw [lv_osw s9 (by decide), lv_osw s12 (by decide), lv_osw s15 (by decide), lv_osw s18 (by decide)]; rfl) (by decide) ?_
  refine ab_aload_n (x := _) (pc2 := 131) dX12_readsStatement_130 rfl rfl ?_
  refine ab_iconst (pc2 := 132) (v := 2) dX12_readsStatement_131 rfl ab_k_iconst_2 ?_
  obtain ⟨w21, ew21, hf⟩ := ab_bind hf
  refine ab_callV (pc2 := 135) (st := []) rfl ht0 (by decide) (m_X12_readsNumber (d := (d + 1)) ht0 ew21) mf_X12_readsNumber tw_114 tw_113 ts_X12_readsNumber (Or.inl (by decide +kernel)) dX12_readsStatement_132 rfl (by omega) (Nat.le_refl _) (Nat.le_refl _) rfl (Nat.le_of_ble_eq_true rfl) (ab_kPb fun z22 => ?_)
  refine ab_if_eq (tgt := 147) (pc2 := 138) dX12_readsStatement_135 (by decide) rfl hf (fun c23 hf => ?_) (fun c23 hf => ?_)
  · refine ab_iconst (pc2 := 148) (v := 0) dX12_readsStatement_147 rfl ab_k_iconst_0 ?_
    cases Option.some.inj hf
    exact ab_retI dX12_readsStatement_148 (Or.inr ⟨rfl, (Or.inl rfl)⟩) (Nat.le_refl _) (Nat.le_refl _) ⟨rfl, rfl, (Or.inl rfl)⟩
  · refine ab_aload_n (x := _) (pc2 := 139) dX12_readsStatement_138 rfl rfl ?_
    refine ab_bipush (pc2 := 141) (v := 32) dX12_readsStatement_139 rfl ab_k_bipush_32 ?_
    obtain ⟨w24, ew24, hf⟩ := ab_bind hf
    refine ab_callV (pc2 := 144) (st := []) rfl ht0 (by decide) (m_X12_takes (d := (d + 2)) ht0 ew24) mf_X12_takes tw_116 tw_115 ts_X12_takes (Or.inl (by decide +kernel)) dX12_readsStatement_141 rfl (by omega) (Nat.le_refl _) (Nat.le_refl _) rfl (Nat.le_of_ble_eq_true rfl) (ab_kPb fun z25 => ?_)
    refine ab_if_ne (tgt := 149) (pc2 := 147) dX12_readsStatement_144 (by decide) rfl hf (fun c26 hf => ?_) (fun c26 hf => ?_)
    · refine ab_aload_n (x := _) (pc2 := 150) dX12_readsStatement_149 rfl rfl ?_
      obtain ⟨w27, ew27, hf⟩ := ab_bind hf
      refine ab_callV (pc2 := 153) (st := []) rfl ht0 (by decide) (m_X12_here (d := (d + 3)) ht0 ew27) mf_X12_here tw_106 tw_105 ts_X12_here (Or.inl (by decide +kernel)) dX12_readsStatement_150 rfl (by omega) (Nat.le_refl _) (Nat.le_refl _) rfl (Nat.le_of_ble_eq_true rfl) (ab_kPi ?_)
      refine ab_bipush (pc2 := 155) (v := 45) dX12_readsStatement_153 rfl ab_k_bipush_45 ?_
      refine ab_icmp_ne (tgt := 162) (pc2 := 158) dX12_readsStatement_155 (by decide) rfl hf (fun c28 hf => ?_) (fun c28 hf => ?_)
      · refine ab_iconst (pc2 := 163) (v := 0) dX12_readsStatement_162 rfl ab_k_iconst_0 ?_
        refine ab_istore_n (pc2 := 164) (lo2 := [some (va_rf _), some (.int _), some (.int _), some (.int _)]) dX12_readsStatement_163 rfl (by decide) rfl ?_
        refine ab_aload_n (x := _) (pc2 := 165) dX12_readsStatement_164 rfl rfl ?_
        refine ab_bipush (pc2 := 167) (v := 43) dX12_readsStatement_165 rfl ab_k_bipush_43 ?_
        obtain ⟨w29, ew29, hf⟩ := ab_bind hf
        refine ab_callV (pc2 := 170) (st := []) rfl ht0 (by decide) (m_X12_takes (d := (d + 2)) ht0 ew29) mf_X12_takes tw_116 tw_115 ts_X12_takes (Or.inl (by decide +kernel)) dX12_readsStatement_167 rfl (by omega) (Nat.le_refl _) (Nat.le_refl _) rfl (Nat.le_of_ble_eq_true rfl) (ab_kPb fun z30 => ?_)
        refine ab_if_ne (tgt := 184) (pc2 := 173) dX12_readsStatement_170 (by decide) rfl hf (fun c31 hf => ?_) (fun c31 hf => ?_)
        · exact ab_weak (x_X12_readsStatement_b184 ht0 hf) (ab_leS (ab_leN (ab_leN (ab_leS ab_le0))))
        · refine ab_aload_n (x := _) (pc2 := 174) dX12_readsStatement_173 rfl rfl ?_
          refine ab_bipush (pc2 := 176) (v := 45) dX12_readsStatement_174 rfl ab_k_bipush_45 ?_
          obtain ⟨w32, ew32, hf⟩ := ab_bind hf
          refine ab_callV (pc2 := 179) (st := []) rfl ht0 (by decide) (m_X12_takes (d := (d + 2)) ht0 ew32) mf_X12_takes tw_116 tw_115 ts_X12_takes (Or.inl (by decide +kernel)) dX12_readsStatement_176 rfl (by omega) (Nat.le_refl _) (Nat.le_refl _) rfl (Nat.le_of_ble_eq_true rfl) (ab_kPb fun z33 => ?_)
          refine ab_if_ne (tgt := 184) (pc2 := 182) dX12_readsStatement_179 (by decide) rfl hf (fun c34 hf => ?_) (fun c34 hf => ?_)
          · exact ab_weak (x_X12_readsStatement_b184 ht0 hf) (ab_leS (ab_leN (ab_leN (ab_leS ab_le0))))
          · refine ab_iconst (pc2 := 183) (v := 0) dX12_readsStatement_182 rfl ab_k_iconst_0 ?_
            cases Option.some.inj hf
            exact ab_retI dX12_readsStatement_183 (Or.inr ⟨rfl, (Or.inl rfl)⟩) (Nat.le_refl _) (Nat.le_refl _) ⟨rfl, rfl, (Or.inl rfl)⟩
      · refine ab_iconst (pc2 := 159) (v := 1) dX12_readsStatement_158 rfl ab_k_iconst_1 ?_
        refine ab_goto (tgt := 163) dX12_readsStatement_159 (by decide) ?_
        refine ab_istore_n (pc2 := 164) (lo2 := [some (va_rf _), some (.int _), some (.int _), some (.int _)]) dX12_readsStatement_163 rfl (by decide) rfl ?_
        refine ab_aload_n (x := _) (pc2 := 165) dX12_readsStatement_164 rfl rfl ?_
        refine ab_bipush (pc2 := 167) (v := 43) dX12_readsStatement_165 rfl ab_k_bipush_43 ?_
        obtain ⟨w35, ew35, hf⟩ := ab_bind hf
        refine ab_callV (pc2 := 170) (st := []) rfl ht0 (by decide) (m_X12_takes (d := (d + 2)) ht0 ew35) mf_X12_takes tw_116 tw_115 ts_X12_takes (Or.inl (by decide +kernel)) dX12_readsStatement_167 rfl (by omega) (Nat.le_refl _) (Nat.le_refl _) rfl (Nat.le_of_ble_eq_true rfl) (ab_kPb fun z36 => ?_)
        refine ab_if_ne (tgt := 184) (pc2 := 173) dX12_readsStatement_170 (by decide) rfl hf (fun c37 hf => ?_) (fun c37 hf => ?_)
        · exact ab_weak (x_X12_readsStatement_b184 ht0 hf) (ab_leS (ab_leN (ab_leN (ab_leS ab_le0))))
        · refine ab_aload_n (x := _) (pc2 := 174) dX12_readsStatement_173 rfl rfl ?_
          refine ab_bipush (pc2 := 176) (v := 45) dX12_readsStatement_174 rfl ab_k_bipush_45 ?_
          obtain ⟨w38, ew38, hf⟩ := ab_bind hf
          refine ab_callV (pc2 := 179) (st := []) rfl ht0 (by decide) (m_X12_takes (d := (d + 2)) ht0 ew38) mf_X12_takes tw_116 tw_115 ts_X12_takes (Or.inl (by decide +kernel)) dX12_readsStatement_176 rfl (by omega) (Nat.le_refl _) (Nat.le_refl _) rfl (Nat.le_of_ble_eq_true rfl) (ab_kPb fun z39 => ?_)
          refine ab_if_ne (tgt := 184) (pc2 := 182) dX12_readsStatement_179 (by decide) rfl hf (fun c40 hf => ?_) (fun c40 hf => ?_)
          · exact ab_weak (x_X12_readsStatement_b184 ht0 hf) (ab_leS (ab_leN (ab_leN (ab_leS ab_le0))))
          · refine ab_iconst (pc2 := 183) (v := 0) dX12_readsStatement_182 rfl ab_k_iconst_0 ?_
            cases Option.some.inj hf
            exact ab_retI dX12_readsStatement_183 (Or.inr ⟨rfl, (Or.inl rfl)⟩) (Nat.le_refl _) (Nat.le_refl _) ⟨rfl, rfl, (Or.inl rfl)⟩
    · refine ab_iconst (pc2 := 148) (v := 0) dX12_readsStatement_147 rfl ab_k_iconst_0 ?_
      cases Option.some.inj hf
      exact ab_retI dX12_readsStatement_148 (Or.inr ⟨rfl, (Or.inl rfl)⟩) (Nat.le_refl _) (Nat.le_refl _) ⟨rfl, rfl, (Or.inl rfl)⟩
set_option maxHeartbeats 4000000 in
set_option maxRecDepth 100000 in
theorem x_X12_readsStatement {d : Nat} {t0 : Nat} {h : ab_HP} {r : (Int32 × ab_HP)} (ht0 : (ab_shp t0).1 = 5) (hf : f_X12_readsStatement t0 h = some r) : ab_T mX12_readsStatement (d + 4) 0 0 0 0 0 [some (va_rf (some t0)), none, none, none] [] h (ab_Pb r.1 r.2) := by
  unfold f_X12_readsStatement at hf
  refine ab_aload_n (x := _) (pc2 := 1) dX12_readsStatement_0 rfl rfl ?_
  obtain ⟨w1, ew1, hf⟩ := ab_bind hf
  refine ab_callV (pc2 := 4) (st := []) rfl ht0 (by decide) (m_X12_here (d := (d + 3)) ht0 ew1) mf_X12_here tw_106 tw_105 ts_X12_here (Or.inl (by decide +kernel)) dX12_readsStatement_1 rfl (by omega) (Nat.le_refl _) (Nat.le_refl _) rfl (Nat.le_of_ble_eq_true rfl) (ab_kPi ?_)
  refine ab_istore_n (pc2 := 5) (lo2 := [some (va_rf _), some (.int _), none, none]) dX12_readsStatement_4 rfl (by decide) rfl ?_
  refine ab_aload_n (x := _) (pc2 := 6) dX12_readsStatement_5 rfl rfl ?_
  refine ab_iconst (pc2 := 7) (v := 0) dX12_readsStatement_6 rfl ab_k_iconst_0 ?_
  obtain ⟨h2, eh2, hf⟩ := ab_let_x hf
  refine ab_putI (pc2 := 10) rfl ht0 fa_X12_94 (Or.inl rfl) (fun z => by cases z) dX12_readsStatement_7 rfl ?_
  refine ab_topH eh2 ?_
  refine ab_iload_n (pc2 := 11) dX12_readsStatement_10 rfl rfl ?_
  refine ab_bipush (pc2 := 13) (v := 100) dX12_readsStatement_11 rfl ab_k_bipush_100 ?_
  refine ab_icmp_eq (tgt := 42) (pc2 := 16) dX12_readsStatement_13 (by decide) rfl hf (fun c3 hf => ?_) (fun c3 hf => ?_)
  · exact ab_weak (x_X12_readsStatement_b42 ht0 hf) (ab_leS (ab_leS (ab_leN (ab_leN ab_le0))))
  · refine ab_iload_n (pc2 := 17) dX12_readsStatement_16 rfl rfl ?_
    refine ab_bipush (pc2 := 19) (v := 109) dX12_readsStatement_17 rfl ab_k_bipush_109 ?_
    refine ab_icmp_eq (tgt := 42) (pc2 := 22) dX12_readsStatement_19 (by decide) rfl hf (fun c4 hf => ?_) (fun c4 hf => ?_)
    · exact ab_weak (x_X12_readsStatement_b42 ht0 hf) (ab_leS (ab_leS (ab_leN (ab_leN ab_le0))))
    · refine ab_iload_n (pc2 := 23) dX12_readsStatement_22 rfl rfl ?_
      refine ab_bipush (pc2 := 25) (v := 99) dX12_readsStatement_23 rfl ab_k_bipush_99 ?_
      refine ab_icmp_eq (tgt := 42) (pc2 := 28) dX12_readsStatement_25 (by decide) rfl hf (fun c5 hf => ?_) (fun c5 hf => ?_)
      · exact ab_weak (x_X12_readsStatement_b42 ht0 hf) (ab_leS (ab_leS (ab_leN (ab_leN ab_le0))))
      · refine ab_iload_n (pc2 := 29) dX12_readsStatement_28 rfl rfl ?_
        refine ab_bipush (pc2 := 31) (v := 110) dX12_readsStatement_29 rfl ab_k_bipush_110 ?_
        refine ab_icmp_eq (tgt := 42) (pc2 := 34) dX12_readsStatement_31 (by decide) rfl hf (fun c6 hf => ?_) (fun c6 hf => ?_)
        · exact ab_weak (x_X12_readsStatement_b42 ht0 hf) (ab_leS (ab_leS (ab_leN (ab_leN ab_le0))))
        · refine ab_iload_n (pc2 := 35) dX12_readsStatement_34 rfl rfl ?_
          refine ab_bipush (pc2 := 37) (v := 108) dX12_readsStatement_35 rfl ab_k_bipush_108 ?_
          refine ab_icmp_eq (tgt := 42) (pc2 := 40) dX12_readsStatement_37 (by decide) rfl hf (fun c7 hf => ?_) (fun c7 hf => ?_)
          · exact ab_weak (x_X12_readsStatement_b42 ht0 hf) (ab_leS (ab_leS (ab_leN (ab_leN ab_le0))))
          · refine ab_iconst (pc2 := 41) (v := 0) dX12_readsStatement_40 rfl ab_k_iconst_0 ?_
            cases Option.some.inj hf
            exact ab_retI dX12_readsStatement_41 (Or.inr ⟨rfl, (Or.inl rfl)⟩) (Nat.le_refl _) (Nat.le_refl _) ⟨rfl, rfl, (Or.inl rfl)⟩
set_option maxHeartbeats 4000000 in
set_option maxRecDepth 100000 in
theorem m_X12_readsStatement {d : Nat} {t0 : Nat} {h : ab_HP} {r : (Int32 × ab_HP)} (ht0 : (ab_shp t0).1 = 5) (hf : f_X12_readsStatement t0 h = some r) : ab_MET mX12_readsStatement (d + 4) 0 0 [va_rf (some t0)] h (ab_Pb r.1 r.2) := ab_met (by decide +kernel) (by decide +kernel) (Nat.le_of_ble_eq_true rfl) rfl (x_X12_readsStatement ht0 hf)
