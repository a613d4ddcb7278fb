set_option maxHeartbeats 4000000 in
set_option maxRecDepth 100000 in
theorem x_X9_behindNail_b35 {d : Nat} {i0 : Option Nat} {i2 : Int32} {h : ab_HP} {r : Int32} (T_i0 : ∀ z, i0 = some z → (ab_shp z).1 = 3) (hf : f_X9_behindNail_b35 i0 i2 h = some r) : ab_T mX9_behindNail (d + 4) 0 0 0 0 35 [some (va_rf i0), none, some (.int i2)] [] h (ab_Pi r h) := by
  unfold f_X9_behindNail_b35 at hf
  refine ab_aload_n (x := _) (pc2 := 36) dX9_behindNail_35 rfl rfl ?_
  refine ab_aload_n (x := _) (pc2 := 37) dX9_behindNail_36 rfl rfl ?_
  refine ab_iload_n (pc2 := 38) dX9_behindNail_37 rfl rfl ?_
  refine ab_bipush (pc2 := 40) (v := 43) dX9_behindNail_38 rfl ab_k_bipush_43 ?_
  obtain ⟨w8, ew8, hf⟩ := ab_bind hf
  refine ab_callS (pc2 := 43) (st := [_]) (m_X9_behindSign (d := (d + 1)) T_i0 ew8) mf_X9_behindSign tw_36 tw_37 dX9_behindNail_40 rfl (by omega) (Nat.le_refl _) (Nat.le_refl _) rfl (Nat.le_of_ble_eq_true rfl) (ab_kPi ?_)
  obtain ⟨w9, ew9, hf⟩ := ab_bind hf
  refine ab_callS (pc2 := 46) (st := []) (m_X9_behindDigit (d := (d + 1)) T_i0 ew9) mf_X9_behindDigit tw_32 tw_33 dX9_behindNail_43 rfl (by omega) (Nat.le_refl _) (Nat.le_refl _) rfl (Nat.le_of_ble_eq_true rfl) (ab_kPi ?_)
  cases Option.some.inj hf
  exact ab_retI dX9_behindNail_46 (Or.inl rfl) (Nat.le_refl _) (Nat.le_refl _) ⟨rfl, rfl⟩
set_option maxHeartbeats 4000000 in
set_option maxRecDepth 100000 in
theorem x_X9_behindNail {d : Nat} {i0 : Option Nat} {i1 : Int32} {h : ab_HP} {r : Int32} (T_i0 : ∀ z, i0 = some z → (ab_shp z).1 = 3) (hf : f_X9_behindNail i0 i1 h = some r) : ab_T mX9_behindNail (d + 4) 0 0 0 0 0 [some (va_rf i0), some (.int i1), none] [] h (ab_Pi r h) := by
  unfold f_X9_behindNail at hf
  refine ab_aload_n (x := _) (pc2 := 1) dX9_behindNail_0 rfl rfl ?_
  refine ab_aload_n (x := _) (pc2 := 2) dX9_behindNail_1 rfl rfl ?_
  refine ab_iload_n (pc2 := 3) dX9_behindNail_2 rfl rfl ?_
  refine ab_iconst (pc2 := 4) (v := 2) dX9_behindNail_3 rfl ab_k_iconst_2 ?_
  obtain ⟨w1, ew1, hf⟩ := ab_bind hf
  refine ab_callS (pc2 := 7) (st := [_]) (m_X9_behindNumber (d := (d + 0)) T_i0 ew1) mf_X9_behindNumber tw_40 tw_41 dX9_behindNail_4 rfl (by omega) (Nat.le_refl _) (Nat.le_refl _) rfl (Nat.le_of_ble_eq_true rfl) (ab_kPi ?_)
  refine ab_bipush (pc2 := 9) (v := 32) dX9_behindNail_7 rfl ab_k_bipush_32 ?_
  obtain ⟨w2, ew2, hf⟩ := ab_bind hf
  refine ab_callS (pc2 := 12) (st := []) (m_X9_behindSign (d := (d + 1)) T_i0 ew2) mf_X9_behindSign tw_36 tw_37 dX9_behindNail_9 rfl (by omega) (Nat.le_refl _) (Nat.le_refl _) rfl (Nat.le_of_ble_eq_true rfl) (ab_kPi ?_)
  refine ab_istore_n (pc2 := 13) (lo2 := [some (va_rf _), some (.int _), some (.int _)]) dX9_behindNail_12 rfl (by decide) rfl ?_
  refine ab_iload_n (pc2 := 14) dX9_behindNail_13 rfl rfl ?_
  refine ab_if_lt (tgt := 35) (pc2 := 17) dX9_behindNail_14 (by decide) rfl hf (fun c3 hf => ?_) (fun c3 hf => ?_)
  · exact ab_weak (x_X9_behindNail_b35 T_i0 hf) (ab_leS (ab_leN (ab_leS ab_le0)))
  · refine ab_aload_n (x := _) (pc2 := 18) dX9_behindNail_17 rfl rfl ?_
    refine ab_iload_n (pc2 := 19) dX9_behindNail_18 rfl rfl ?_
    obtain ⟨q4, hq4, hf⟩ := ab_bind hf
    obtain ⟨w5, ew5, hf⟩ := ab_bind hf
    refine ab_callV (pc2 := 22) (st := []) hq4 (T_i0 q4 hq4) (by decide) (m_X6_read (d := (d + 2)) (T_i0 q4 hq4) ew5) mf_X6_read tw_25 tw_24 ts_X6_read (Or.inl (by decide +kernel)) dX9_behindNail_19 rfl (by omega) (Nat.le_refl _) (Nat.le_refl _) rfl (Nat.le_of_ble_eq_true rfl) (ab_kPi ?_)
    refine ab_bipush (pc2 := 24) (v := 45) dX9_behindNail_22 rfl ab_k_bipush_45 ?_
    refine ab_icmp_ne (tgt := 35) (pc2 := 27) dX9_behindNail_24 (by decide) rfl hf (fun c6 hf => ?_) (fun c6 hf => ?_)
    · exact ab_weak (x_X9_behindNail_b35 T_i0 hf) (ab_leS (ab_leN (ab_leS ab_le0)))
    · refine ab_aload_n (x := _) (pc2 := 28) dX9_behindNail_27 rfl rfl ?_
      refine ab_iload_n (pc2 := 29) dX9_behindNail_28 rfl rfl ?_
      refine ab_iconst (pc2 := 30) (v := 1) dX9_behindNail_29 rfl ab_k_iconst_1 ?_
      refine ab_iadd (pc2 := 31) dX9_behindNail_30 rfl ?_
      obtain ⟨w7, ew7, hf⟩ := ab_bind hf
      refine ab_callS (pc2 := 34) (st := []) (m_X9_behindDigit (d := (d + 1)) T_i0 ew7) mf_X9_behindDigit tw_32 tw_33 dX9_behindNail_31 rfl (by omega) (Nat.le_refl _) (Nat.le_refl _) rfl (Nat.le_of_ble_eq_true rfl) (ab_kPi ?_)
      cases Option.some.inj hf
      exact ab_retI dX9_behindNail_34 (Or.inl rfl) (Nat.le_refl _) (Nat.le_refl _) ⟨rfl, rfl⟩
set_option maxHeartbeats 4000000 in
set_option maxRecDepth 100000 in
theorem m_X9_behindNail {d : Nat} {i0 : Option Nat} {i1 : Int32} {h : ab_HP} {r : Int32} (T_i0 : ∀ z, i0 = some z → (ab_shp z).1 = 3) (hf : f_X9_behindNail i0 i1 h = some r) : ab_MET mX9_behindNail (d + 4) 0 0 [va_rf i0, .int i1] h (ab_Pi r h) := ab_met (by decide +kernel) (by decide +kernel) (by simp [ab_lo, ab_rf1, ab_cI, ab_cJ]) (by simp [ab_lo0, ab_lo, ab_rf1, ab_cI, ab_cJ, List.replicate]) (x_X9_behindNail T_i0 hf)
set_option maxHeartbeats 4000000 in
set_option maxRecDepth 100000 in
theorem x_X9_behindStatement_b129 {d : Nat} {i0 : Option Nat} {i2 : Int32} {h : ab_HP} {r : Int32} (T_i0 : ∀ z, i0 = some z → (ab_shp z).1 = 3) (hf : f_X9_behindStatement_b129 i0 i2 h = some r) : ab_T mX9_behindStatement (d + 5) 0 0 0 0 129 [some (va_rf i0), none, some (.int i2)] [] h (ab_Pi r h) := by
  unfold f_X9_behindStatement_b129 at hf
  refine ab_aload_n (x := _) (pc2 := 130) dX9_behindStatement_129 rfl rfl ?_
  refine ab_iload_n (pc2 := 131) dX9_behindStatement_130 rfl rfl ?_
  refine ab_bipush (pc2 := 133) (v := 59) dX9_behindStatement_131 rfl ab_k_bipush_59 ?_
  obtain ⟨w13, ew13, hf⟩ := ab_bind hf
  refine ab_callS (pc2 := 136) (st := []) (m_X9_behindSign (d := (d + 2)) T_i0 ew13) mf_X9_behindSign tw_36 tw_37 dX9_behindStatement_133 rfl (by omega) (Nat.le_refl _) (Nat.le_refl _) rfl (Nat.le_of_ble_eq_true rfl) (ab_kPi ?_)
  cases Option.some.inj hf
  exact ab_retI dX9_behindStatement_136 (Or.inl rfl) (Nat.le_refl _) (Nat.le_refl _) ⟨rfl, rfl⟩
set_option maxHeartbeats 4000000 in
set_option maxRecDepth 100000 in
theorem x_X9_behindStatement_b124 {d : Nat} {i1 : Int32} {h : ab_HP} {r : Int32}  (hf : f_X9_behindStatement_b124 i1 h = some r) : ab_T mX9_behindStatement (d + 5) 0 0 0 0 124 [none, some (.int i1), none] [] h (ab_Pi r h) := by
  unfold f_X9_behindStatement_b124 at hf
  refine ab_iload_n (pc2 := 125) dX9_behindStatement_124 rfl rfl ?_
  obtain ⟨w14, ew14, hf⟩ := ab_bind hf
  refine ab_callS (pc2 := 128) (st := []) (m_X9_wrongAt (d := (d + 4)) ew14) mf_X9_wrongAt tw_28 tw_29 dX9_behindStatement_125 rfl (by omega) (Nat.le_refl _) (Nat.le_refl _) rfl (Nat.le_of_ble_eq_true rfl) (ab_kPi ?_)
  cases Option.some.inj hf
  exact ab_retI dX9_behindStatement_128 (Or.inl rfl) (Nat.le_refl _) (Nat.le_refl _) ⟨rfl, rfl⟩
set_option maxHeartbeats 4000000 in
set_option maxRecDepth 100000 in
theorem x_X9_behindStatement {d : Nat} {i0 : Option Nat} {i1 : Int32} {h : ab_HP} {r : Int32} (T_i0 : ∀ z, i0 = some z → (ab_shp z).1 = 3) (hf : f_X9_behindStatement i0 i1 h = some r) : ab_T mX9_behindStatement (d + 5) 0 0 0 0 0 [some (va_rf i0), some (.int i1), none] [] h (ab_Pi r h) := by
  unfold f_X9_behindStatement at hf
  refine ab_aload_n (x := _) (pc2 := 1) dX9_behindStatement_0 rfl rfl ?_
  refine ab_iload_n (pc2 := 2) dX9_behindStatement_1 rfl rfl ?_
  obtain ⟨q1, hq1, hf⟩ := ab_bind hf
  obtain ⟨w2, ew2, hf⟩ := ab_bind hf
  refine ab_callV (pc2 := 5) (st := []) hq1 (T_i0 q1 hq1) (by decide) (m_X6_read (d := (d + 3)) (T_i0 q1 hq1) ew2) mf_X6_read tw_25 tw_24 ts_X6_read (Or.inl (by decide +kernel)) dX9_behindStatement_2 rfl (by omega) (Nat.le_refl _) (Nat.le_refl _) rfl (Nat.le_of_ble_eq_true rfl) (ab_kPi ?_)
  rcases ab_cas hf with ⟨s3, hf⟩ | ⟨s3, hf⟩
  · refine ab_tswK (tgt := 90) (off := 85) dX9_behindStatement_5 s3 (by decide) (by decide) (by decide +kernel) (by decide) ?_
    refine ab_aload_n (x := _) (pc2 := 91) dX9_behindStatement_90 rfl rfl ?_
    refine ab_iload_n (pc2 := 92) dX9_behindStatement_91 rfl rfl ?_
    refine ab_iconst (pc2 := 93) (v := 1) dX9_behindStatement_92 rfl ab_k_iconst_1 ?_
    refine ab_iadd (pc2 := 94) dX9_behindStatement_93 rfl ?_
    refine ab_iconst (pc2 := 95) (v := 4) dX9_behindStatement_94 rfl ab_k_iconst_4 ?_
    obtain ⟨w4, ew4, hf⟩ := ab_bind hf
    refine ab_callS (pc2 := 98) (st := []) (m_X9_behindNumber (d := (d + 1)) T_i0 ew4) mf_X9_behindNumber tw_40 tw_41 dX9_behindStatement_95 rfl (by omega) (Nat.le_refl _) (Nat.le_refl _) rfl (Nat.le_of_ble_eq_true rfl) (ab_kPi ?_)
    refine ab_istore_n (pc2 := 99) (lo2 := [some (va_rf _), some (.int _), some (.int _)]) dX9_behindStatement_98 rfl (by decide) rfl ?_
    refine ab_goto (tgt := 129) dX9_behindStatement_99 (by decide) ?_
    exact ab_weak (x_X9_behindStatement_b129 T_i0 hf) (ab_leS (ab_leN (ab_leS ab_le0)))
  rcases ab_cas hf with ⟨s5, hf⟩ | ⟨s5, hf⟩
  · refine ab_tswK (tgt := 68) (off := 63) dX9_behindStatement_5 s5 (by decide) (by decide) (by decide +kernel) (by decide) ?_
    refine ab_aload_n (x := _) (pc2 := 69) dX9_behindStatement_68 rfl rfl ?_
    refine ab_iload_n (pc2 := 70) dX9_behindStatement_69 rfl rfl ?_
    refine ab_iconst (pc2 := 71) (v := 1) dX9_behindStatement_70 rfl ab_k_iconst_1 ?_
    refine ab_iadd (pc2 := 72) dX9_behindStatement_71 rfl ?_
    obtain ⟨w6, ew6, hf⟩ := ab_bind hf
    refine ab_callS (pc2 := 75) (st := []) (m_X9_behindDeed (d := (d + 0)) T_i0 ew6) mf_X9_behindDeed tw_42 tw_43 dX9_behindStatement_72 rfl (by omega) (Nat.le_refl _) (Nat.le_refl _) rfl (Nat.le_of_ble_eq_true rfl) (ab_kPi ?_)
    refine ab_istore_n (pc2 := 76) (lo2 := [some (va_rf _), some (.int _), some (.int _)]) dX9_behindStatement_75 rfl (by decide) rfl ?_
    refine ab_goto (tgt := 129) dX9_behindStatement_76 (by decide) ?_
    exact ab_weak (x_X9_behindStatement_b129 T_i0 hf) (ab_leS (ab_leN (ab_leS ab_le0)))
  rcases ab_cas hf with ⟨s7, hf⟩ | ⟨s7, hf⟩
  · refine ab_tswK (tgt := 113) (off := 108) dX9_behindStatement_5 s7 (by decide) (by decide) (by decide +kernel) (by decide) ?_
    refine ab_aload_n (x := _) (pc2 := 114) dX9_behindStatement_113 rfl rfl ?_
    refine ab_iload_n (pc2 := 115) dX9_behindStatement_114 rfl rfl ?_
    refine ab_iconst (pc2 := 116) (v := 1) dX9_behindStatement_115 rfl ab_k_iconst_1 ?_
    refine ab_iadd (pc2 := 117) dX9_behindStatement_116 rfl ?_
    obtain ⟨w8, ew8, hf⟩ := ab_bind hf
    refine ab_callS (pc2 := 120) (st := []) (m_X9_behindDigit (d := (d + 2)) T_i0 ew8) mf_X9_behindDigit tw_32 tw_33 dX9_behindStatement_117 rfl (by omega) (Nat.le_refl _) (Nat.le_refl _) rfl (Nat.le_of_ble_eq_true rfl) (ab_kPi ?_)
    refine ab_istore_n (pc2 := 121) (lo2 := [some (va_rf _), some (.int _), some (.int _)]) dX9_behindStatement_120 rfl (by decide) rfl ?_
    refine ab_goto (tgt := 129) dX9_behindStatement_121 (by decide) ?_
    exact ab_weak (x_X9_behindStatement_b129 T_i0 hf) (ab_leS (ab_leN (ab_leS ab_le0)))
  rcases ab_cas hf with ⟨s9, hf⟩ | ⟨s9, hf⟩
  · refine ab_tswK (tgt := 79) (off := 74) dX9_behindStatement_5 s9 (by decide) (by decide) (by decide +kernel) (by decide) ?_
    refine ab_aload_n (x := _) (pc2 := 80) dX9_behindStatement_79 rfl rfl ?_
    refine ab_iload_n (pc2 := 81) dX9_behindStatement_80 rfl rfl ?_
    refine ab_iconst (pc2 := 82) (v := 1) dX9_behindStatement_81 rfl ab_k_iconst_1 ?_
    refine ab_iadd (pc2 := 83) dX9_behindStatement_82 rfl ?_
    obtain ⟨w10, ew10, hf⟩ := ab_bind hf
    refine ab_callS (pc2 := 86) (st := []) (m_X9_behindLetter (d := (d + 2)) T_i0 ew10) mf_X9_behindLetter tw_38 tw_39 dX9_behindStatement_83 rfl (by omega) (Nat.le_refl _) (Nat.le_refl _) rfl (Nat.le_of_ble_eq_true rfl) (ab_kPi ?_)
    refine ab_istore_n (pc2 := 87) (lo2 := [some (va_rf _), some (.int _), some (.int _)]) dX9_behindStatement_86 rfl (by decide) rfl ?_
    refine ab_goto (tgt := 129) dX9_behindStatement_87 (by decide) ?_
    exact ab_weak (x_X9_behindStatement_b129 T_i0 hf) (ab_leS (ab_leN (ab_leS ab_le0)))
  rcases ab_cas hf with ⟨s11, hf⟩ | ⟨s11, hf⟩
  · refine ab_tswK (tgt := 102) (off := 97) dX9_behindStatement_5 s11 (by decide) (by decide) (by decide +kernel) (by decide) ?_
    refine ab_aload_n (x := _) (pc2 := 103) dX9_behindStatement_102 rfl rfl ?_
    refine ab_iload_n (pc2 := 104) dX9_behindStatement_103 rfl rfl ?_
    refine ab_iconst (pc2 := 105) (v := 1) dX9_behindStatement_104 rfl ab_k_iconst_1 ?_
    refine ab_iadd (pc2 := 106) dX9_behindStatement_105 rfl ?_
    obtain ⟨w12, ew12, hf⟩ := ab_bind hf
    refine ab_callS (pc2 := 109) (st := []) (m_X9_behindNail (d := (d + 0)) T_i0 ew12) mf_X9_behindNail tw_44 tw_45 dX9_behindStatement_106 rfl (by omega) (Nat.le_refl _) (Nat.le_refl _) rfl (Nat.le_of_ble_eq_true rfl) (ab_kPi ?_)
    refine ab_istore_n (pc2 := 110) (lo2 := [some (va_rf _), some (.int _), some (.int _)]) dX9_behindStatement_109 rfl (by decide) rfl ?_
    refine ab_goto (tgt := 129) dX9_behindStatement_110 (by decide) ?_
    exact ab_weak (x_X9_behindStatement_b129 T_i0 hf) (ab_leS (ab_leN (ab_leS ab_le0)))
  have s3n := lv_neT s3 (by decide : (99 : Int32).toInt = 99)
  have s5n := lv_neT s5 (by decide : (100 : Int32).toInt = 100)
  have s7n := lv_neT s7 (by decide : (108 : Int32).toInt = 108)
  have s9n := lv_neT s9 (by decide : (109 : Int32).toInt = 109)
  have s11n := lv_neT s11 (by decide : (110 : Int32).toInt = 110)
  refine ab_tswD (tgt := 124) dX9_behindStatement_5 (by decide) (fun j hj e => by
    have hj : j < 12 := hj
    rcases (by omega : j = 0 ∨ j = 1 ∨ j = 2 ∨ j = 3 ∨ j = 4 ∨ j = 5 ∨ j = 6 ∨ j = 7 ∨ j = 8 ∨ j = 9 ∨ j = 10 ∨ j = 11) with rfl | rfl | rfl | rfl | rfl | rfl | rfl | rfl | rfl | rfl | rfl | rfl
    · exact absurd e (by omega)
    · exact absurd e (by omega)
    · rfl
    · rfl
    · rfl
    · rfl
    · rfl
    · rfl
    · rfl
    · exact absurd e (by omega)
    · exact absurd e (by omega)
    · exact absurd e (by omega)) (by decide) ?_
  exact ab_weak (x_X9_behindStatement_b124 hf) (ab_leN (ab_leS (ab_leN ab_le0)))
set_option maxHeartbeats 4000000 in
set_option maxRecDepth 100000 in
theorem m_X9_behindStatement {d : Nat} {i0 : Option Nat} {i1 : Int32} {h : ab_HP} {r : Int32} (T_i0 : ∀ z, i0 = some z → (ab_shp z).1 = 3) (hf : f_X9_behindStatement i0 i1 h = some r) : ab_MET mX9_behindStatement (d + 5) 0 0 [va_rf i0, .int i1] h (ab_Pi r h) := ab_met (by decide +kernel) (by decide +kernel) (by simp [ab_lo, ab_rf1, ab_cI, ab_cJ]) (by simp [ab_lo0, ab_lo, ab_rf1, ab_cI, ab_cJ, List.replicate]) (x_X9_behindStatement T_i0 hf)
set_option maxHeartbeats 4000000 in
set_option maxRecDepth 100000 in
theorem x_X9_faultAt {d : Nat} {i0 : Int32} {h : ab_HP} {r : Int32}  (hf : f_X9_faultAt i0 h = some r) : ab_T mX9_faultAt (d + 0) 0 0 0 0 0 [some (.int i0)] [] h (ab_Pi r h) := by
  unfold f_X9_faultAt at hf
  refine ab_iconst (pc2 := 1) (v := (-1)) dX9_faultAt_0 rfl ab_k_iconst_m1 ?_
  refine ab_iload_n (pc2 := 2) dX9_faultAt_1 rfl rfl ?_
  refine ab_isub (pc2 := 3) dX9_faultAt_2 rfl ?_
  cases Option.some.inj hf
  exact ab_retI dX9_faultAt_3 (Or.inl rfl) (Nat.le_refl _) (Nat.le_refl _) ⟨rfl, rfl⟩
set_option maxHeartbeats 4000000 in
set_option maxRecDepth 100000 in
theorem m_X9_faultAt {d : Nat} {i0 : Int32} {h : ab_HP} {r : Int32}  (hf : f_X9_faultAt i0 h = some r) : ab_MET mX9_faultAt (d + 0) 0 0 [.int i0] h (ab_Pi r h) := ab_met (by decide +kernel) (by decide +kernel) (Nat.le_of_ble_eq_true rfl) rfl (x_X9_faultAt  hf)
set_option maxHeartbeats 4000000 in
set_option maxRecDepth 100000 in
theorem x_X9_number_l4 {d : Nat}  {r : Int32}  : ∀ (n : Nat) (i0 : Option Nat) (i2 : Int32) (i3 : Int32) (h : ab_HP), (∀ z, i0 = some z → (ab_shp z).1 = 3) → f_X9_number_l4  n i0 i2 i3 h = some r → ab_T mX9_number (d + 2) 0 0 0 0 4 [some (va_rf i0), none, some (.int i2), some (.int i3)] [] h (ab_Pi r h) := by
  intro n
  induction n with
  | zero =>
    intro i0 i2 i3 h T_i0 hf
    rw [f_X9_number_l4] at hf
    cases hf
  | succ n ih =>
    intro i0 i2 i3 h T_i0 hf
    rw [f_X9_number_l4] at hf
    refine ab_iload_n (pc2 := 5) dX9_number_4 rfl rfl ?_
    refine ab_aload_n (x := _) (pc2 := 6) dX9_number_5 rfl rfl ?_
    obtain ⟨q1, hq1, hf⟩ := ab_bind hf
    refine ab_getI (pc2 := 9) hq1 (T_i0 q1 hq1) fa_X9_43 (by decide) dX9_number_6 rfl ?_
    refine ab_icmp_ge (tgt := 43) (pc2 := 12) dX9_number_9 (by decide) rfl hf (fun c2 hf => ?_) (fun c2 hf => ?_)
    · refine ab_iload_n (pc2 := 44) dX9_number_43 rfl rfl ?_
      cases Option.some.inj hf
      exact ab_retI dX9_number_44 (Or.inl rfl) (Nat.le_refl _) (Nat.le_refl _) ⟨rfl, rfl⟩
    · refine ab_aload_n (x := _) (pc2 := 13) dX9_number_12 rfl rfl ?_
      refine ab_iload_n (pc2 := 14) dX9_number_13 rfl rfl ?_
      obtain ⟨w3, ew3, hf⟩ := ab_bind hf
      refine ab_callV (pc2 := 17) (st := []) hq1 (T_i0 q1 hq1) (by decide) (m_X6_read (d := (d + 0)) (T_i0 q1 hq1) ew3) mf_X6_read tw_25 tw_24 ts_X6_read (Or.inl (by decide +kernel)) dX9_number_14 rfl (by omega) (Nat.le_refl _) (Nat.le_refl _) rfl (Nat.le_of_ble_eq_true rfl) (ab_kPi ?_)
      obtain ⟨w4, ew4, hf⟩ := ab_bind hf
      refine ab_callS (pc2 := 20) (st := []) (m_X9_isDigit (d := (d + 1)) ew4) mf_X9_isDigit tw_26 tw_27 dX9_number_17 rfl (by omega) (Nat.le_refl _) (Nat.le_refl _) rfl (Nat.le_of_ble_eq_true rfl) (ab_kPb fun z5 => ?_)
      refine ab_if_eq (tgt := 43) (pc2 := 23) dX9_number_20 (by decide) rfl hf (fun c6 hf => ?_) (fun c6 hf => ?_)
      · refine ab_iload_n (pc2 := 44) dX9_number_43 rfl rfl ?_
        cases Option.some.inj hf
        exact ab_retI dX9_number_44 (Or.inl rfl) (Nat.le_refl _) (Nat.le_refl _) ⟨rfl, rfl⟩
      · refine ab_bipush (pc2 := 25) (v := 10) dX9_number_23 rfl ab_k_bipush_10 ?_
        refine ab_iload_n (pc2 := 26) dX9_number_25 rfl rfl ?_
        refine ab_imul (pc2 := 27) dX9_number_26 rfl ?_
        refine ab_aload_n (x := _) (pc2 := 28) dX9_number_27 rfl rfl ?_
        refine ab_iload_n (pc2 := 29) dX9_number_28 rfl rfl ?_
        obtain ⟨w7, ew7, hf⟩ := ab_bind hf
        refine ab_callV (pc2 := 32) (st := [_]) hq1 (T_i0 q1 hq1) (by decide) (m_X6_read (d := (d + 0)) (T_i0 q1 hq1) ew7) mf_X6_read tw_25 tw_24 ts_X6_read (Or.inl (by decide +kernel)) dX9_number_29 rfl (by omega) (Nat.le_refl _) (Nat.le_refl _) rfl (Nat.le_of_ble_eq_true rfl) (ab_kPi ?_)
        refine ab_iadd (pc2 := 33) dX9_number_32 rfl ?_
        refine ab_bipush (pc2 := 35) (v := 48) dX9_number_33 rfl ab_k_bipush_48 ?_
        refine ab_isub (pc2 := 36) dX9_number_35 rfl ?_
        obtain ⟨v8, ev8, hf⟩ := ab_let_x hf
        refine ab_topI ev8 ?_
        refine ab_istore_n (pc2 := 37) (lo2 := [some (va_rf _), none, some (.int _), some (.int _)]) dX9_number_36 rfl (by decide) rfl ?_
        refine ab_iinc (pc2 := 40) (v := _ + 1) (lo2 := [some (va_rf _), none, some (.int _), some (.int _)]) dX9_number_37 rfl rfl rfl (by decide) rfl ?_
        refine ab_goto (tgt := 4) dX9_number_40 (by decide) ?_
        exact ab_weak (ih _ _ _ _ T_i0 hf) (ab_leS (ab_leN (ab_leS (ab_leS ab_le0))))
set_option maxHeartbeats 4000000 in
set_option maxRecDepth 100000 in
theorem x_X9_number {d : Nat} {i0 : Option Nat} {i1 : Int32} {h : ab_HP} {r : Int32} (T_i0 : ∀ z, i0 = some z → (ab_shp z).1 = 3) (hf : f_X9_number i0 i1 h = some r) : ab_T mX9_number (d + 2) 0 0 0 0 0 [some (va_rf i0), some (.int i1), none, none] [] h (ab_Pi r h) := by
  unfold f_X9_number at hf
  refine ab_iconst (pc2 := 1) (v := 0) dX9_number_0 rfl ab_k_iconst_0 ?_
  refine ab_istore_n (pc2 := 2) (lo2 := [some (va_rf _), some (.int _), some (.int _), none]) dX9_number_1 rfl (by decide) rfl ?_
  refine ab_iload_n (pc2 := 3) dX9_number_2 rfl rfl ?_
  refine ab_istore_n (pc2 := 4) (lo2 := [some (va_rf _), some (.int _), some (.int _), some (.int _)]) dX9_number_3 rfl (by decide) rfl ?_
  exact ab_weak (x_X9_number_l4  _ _ _ _ _ T_i0 hf) (ab_leS (ab_leN (ab_leS (ab_leS ab_le0))))
set_option maxHeartbeats 4000000 in
set_option maxRecDepth 100000 in
theorem m_X9_number {d : Nat} {i0 : Option Nat} {i1 : Int32} {h : ab_HP} {r : Int32} (T_i0 : ∀ z, i0 = some z → (ab_shp z).1 = 3) (hf : f_X9_number i0 i1 h = some r) : ab_MET mX9_number (d + 2) 0 0 [va_rf i0, .int i1] h (ab_Pi r h) := ab_met (by decide +kernel) (by decide +kernel) (by simp [ab_lo, ab_rf1, ab_cI, ab_cJ]) (by simp [ab_lo0, ab_lo, ab_rf1, ab_cI, ab_cJ, List.replicate]) (x_X9_number T_i0 hf)
set_option maxHeartbeats 4000000 in
set_option maxRecDepth 100000 in
theorem x_X1_init {d : Nat} {t0 : Nat} {i1 : Int32} {i2 : Int32} {i3 : Int32} {i4 : Int32} {i5 : Int32} {h : ab_HP} {r : ab_HP} (ht0 : (ab_shp t0).1 = 4) (hf : f_X1_init t0 i1 i2 i3 i4 i5 h = some r) : ab_T mX1_init (d + 1) 0 0 0 0 0 [some (va_rf (some t0)), some (.int i1), some (.int i2), some (.int i3), some (.int i4), some (.int i5)] [] h (ab_Pv r) := by
  unfold f_X1_init at hf
  refine ab_aload_n (x := _) (pc2 := 1) dX1_init_0 rfl rfl ?_
  refine ab_objInit (pc2 := 4) rfl tw_46 tw_4 tw_obj (by omega) (Nat.le_of_ble_eq_true rfl) dX1_init_1 rfl ?_
  refine ab_aload_n (x := _) (pc2 := 5) dX1_init_4 rfl rfl ?_
  refine ab_iconst (pc2 := 6) (v := 0) dX1_init_5 rfl ab_k_iconst_0 ?_
  obtain ⟨h1, eh1, hf⟩ := ab_let_x hf
  refine ab_putI (pc2 := 9) rfl ht0 fa_X1_9 (Or.inl rfl) (fun z => by cases z) dX1_init_6 rfl ?_
  refine ab_topH eh1 ?_
  refine ab_aload_n (x := _) (pc2 := 10) dX1_init_9 rfl rfl ?_
  refine ab_iconst (pc2 := 11) (v := 4) dX1_init_10 rfl ab_k_iconst_4 ?_
  obtain ⟨h2, eh2, hf⟩ := ab_let_x hf
  refine ab_putI (pc2 := 14) rfl ht0 fa_X1_15 (Or.inl rfl) (fun z => by cases z) dX1_init_11 rfl ?_
  refine ab_topH eh2 ?_
  refine ab_aload_n (x := _) (pc2 := 15) dX1_init_14 rfl rfl ?_
  refine ab_iload_n (pc2 := 16) dX1_init_15 rfl rfl ?_
  obtain ⟨h3, eh3, hf⟩ := ab_let_x hf
  refine ab_putI (pc2 := 19) rfl ht0 fa_X1_18 (Or.inl rfl) (fun _ => rfl) dX1_init_16 rfl ?_
  refine ab_topH eh3 ?_
  refine ab_aload_n (x := _) (pc2 := 20) dX1_init_19 rfl rfl ?_
  refine ab_iload_n (pc2 := 21) dX1_init_20 rfl rfl ?_
  obtain ⟨h4, eh4, hf⟩ := ab_let_x hf
  refine ab_putI (pc2 := 24) rfl ht0 fa_X1_21 (Or.inl rfl) (fun _ => rfl) dX1_init_21 rfl ?_
  refine ab_topH eh4 ?_
  refine ab_aload_n (x := _) (pc2 := 25) dX1_init_24 rfl rfl ?_
  refine ab_iload_n (pc2 := 26) dX1_init_25 rfl rfl ?_
  obtain ⟨h5, eh5, hf⟩ := ab_let_x hf
  refine ab_putI (pc2 := 29) rfl ht0 fa_X1_24 (Or.inl rfl) (fun _ => rfl) dX1_init_26 rfl ?_
  refine ab_topH eh5 ?_
  refine ab_aload_n (x := _) (pc2 := 30) dX1_init_29 rfl rfl ?_
  refine ab_iload (pc2 := 32) dX1_init_30 rfl rfl ?_
  obtain ⟨h6, eh6, hf⟩ := ab_let_x hf
  refine ab_putI (pc2 := 35) rfl ht0 fa_X1_27 (Or.inl rfl) (fun _ => rfl) dX1_init_32 rfl ?_
  refine ab_topH eh6 ?_
  refine ab_aload_n (x := _) (pc2 := 36) dX1_init_35 rfl rfl ?_
  refine ab_iload (pc2 := 38) dX1_init_36 rfl rfl ?_
  obtain ⟨h7, eh7, hf⟩ := ab_let_x hf
  refine ab_putI (pc2 := 41) rfl ht0 fa_X1_30 (Or.inl rfl) (fun _ => rfl) dX1_init_38 rfl ?_
  refine ab_topH eh7 ?_
  refine ab_aload_n (x := _) (pc2 := 42) dX1_init_41 rfl rfl ?_
  refine ab_iload (pc2 := 44) dX1_init_42 rfl rfl ?_
  obtain ⟨h8, eh8, hf⟩ := ab_let_x hf
  refine ab_putI (pc2 := 47) rfl ht0 fa_X1_33 (Or.inl rfl) (fun z => by cases z) dX1_init_44 rfl ?_
  refine ab_topH eh8 ?_
  refine ab_aload_n (x := _) (pc2 := 48) dX1_init_47 rfl rfl ?_
  refine ab_iload (pc2 := 50) dX1_init_48 rfl rfl ?_
  obtain ⟨h9, eh9, hf⟩ := ab_let_x hf
  refine ab_putI (pc2 := 53) rfl ht0 fa_X1_36 (Or.inl rfl) (fun z => by cases z) dX1_init_50 rfl ?_
  refine ab_topH eh9 ?_
  refine ab_aload_n (x := _) (pc2 := 54) dX1_init_53 rfl rfl ?_
  refine ab_iconst (pc2 := 55) (v := 1) dX1_init_54 rfl ab_k_iconst_1 ?_
  refine ab_iload_n (pc2 := 56) dX1_init_55 rfl rfl ?_
  refine ab_ishl (pc2 := 57) dX1_init_56 rfl ?_
  obtain ⟨h10, eh10, hf⟩ := ab_let_x hf
  refine ab_putI (pc2 := 60) rfl ht0 fa_X1_39 (Or.inl rfl) (fun z => by cases z) dX1_init_57 rfl ?_
  refine ab_topH eh10 ?_
  refine ab_aload_n (x := _) (pc2 := 61) dX1_init_60 rfl rfl ?_
  refine ab_iload_n (pc2 := 62) dX1_init_61 rfl rfl ?_
  obtain ⟨h11, eh11, hf⟩ := ab_let_x hf
  refine ab_putI (pc2 := 65) rfl ht0 fa_X1_42 (Or.inl rfl) (fun z => by cases z) dX1_init_62 rfl ?_
  refine ab_topH eh11 ?_
  refine ab_aload_n (x := _) (pc2 := 66) dX1_init_65 rfl rfl ?_
  refine ab_iload (pc2 := 68) dX1_init_66 rfl rfl ?_
  refine ab_if_eq (tgt := 75) (pc2 := 71) dX1_init_68 (by decide) rfl hf (fun c12 hf => ?_) (fun c12 hf => ?_)
  · refine ab_iconst (pc2 := 76) (v := 0) dX1_init_75 rfl ab_k_iconst_0 ?_
    obtain ⟨h13, eh13, hf⟩ := ab_let_x hf
    refine ab_putI (pc2 := 79) rfl ht0 fa_X1_45 (Or.inr ⟨rfl, (Or.inl rfl)⟩) (fun z => by cases z) dX1_init_76 rfl ?_
    refine ab_topH eh13 ?_
    cases Option.some.inj hf
    exact ab_retV dX1_init_79 rfl (Nat.le_refl _) (Nat.le_refl _) ⟨rfl, rfl⟩
  · refine ab_iconst (pc2 := 72) (v := 1) dX1_init_71 rfl ab_k_iconst_1 ?_
    refine ab_goto (tgt := 76) dX1_init_72 (by decide) ?_
    obtain ⟨h14, eh14, hf⟩ := ab_let_x hf
    refine ab_putI (pc2 := 79) rfl ht0 fa_X1_45 (Or.inr ⟨rfl, (Or.inr rfl)⟩) (fun z => by cases z) dX1_init_76 rfl ?_
    refine ab_topH eh14 ?_
    cases Option.some.inj hf
    exact ab_retV dX1_init_79 rfl (Nat.le_refl _) (Nat.le_refl _) ⟨rfl, rfl⟩
set_option maxHeartbeats 4000000 in
set_option maxRecDepth 100000 in
theorem m_X1_init {d : Nat} {t0 : Nat} {i1 : Int32} {i2 : Int32} {i3 : Int32} {i4 : Int32} {i5 : Int32} {h : ab_HP} {r : ab_HP} (ht0 : (ab_shp t0).1 = 4) (hf : f_X1_init t0 i1 i2 i3 i4 i5 h = some r) : ab_MET mX1_init (d + 1) 0 0 [va_rf (some t0), .int i1, .int i2, .int i3, .int i4, .int i5] h (ab_Pv r) := ab_met (by decide +kernel) (by decide +kernel) (Nat.le_of_ble_eq_true rfl) rfl (x_X1_init ht0 hf)
set_option maxHeartbeats 4000000 in
set_option maxRecDepth 100000 in
theorem x_X4_init {d : Nat} {t0 : Nat} {i1 : Int32} {i2 : Int32} {i3 : Int32} {i4 : Int32} {i5 : Int32} {h : ab_HP} {r : ab_HP} (ht0 : (ab_shp t0).1 = 4) (hf : f_X4_init t0 i1 i2 i3 i4 i5 h = some r) : ab_T mX4_init (d + 2) 0 0 0 0 0 [some (va_rf (some t0)), some (.int i1), some (.int i2), some (.int i3), some (.int i4), some (.int i5)] [] h (ab_Pv r) := by
  unfold f_X4_init at hf
  refine ab_aload_n (x := _) (pc2 := 1) dX4_init_0 rfl rfl ?_
  refine ab_iload_n (pc2 := 2) dX4_init_1 rfl rfl ?_
  refine ab_iload_n (pc2 := 3) dX4_init_2 rfl rfl ?_
  refine ab_iload_n (pc2 := 4) dX4_init_3 rfl rfl ?_
  refine ab_iload (pc2 := 6) dX4_init_4 rfl rfl ?_
  refine ab_iload (pc2 := 8) dX4_init_6 rfl rfl ?_
  obtain ⟨w1, ew1, hf⟩ := ab_bind hf
  refine ab_callI (pc2 := 11) (st := []) (m_X1_init (d := (d + 0)) ht0 ew1) mf_X1_init rfl rfl tw_48 tw_47 dX4_init_8 rfl (by omega) (Nat.le_refl _) (Nat.le_refl _) rfl (Nat.le_of_ble_eq_true rfl) (ab_kPv ?_)
  refine ab_aload_n (x := _) (pc2 := 12) dX4_init_11 rfl rfl ?_
  refine ab_iconst (pc2 := 13) (v := 1) dX4_init_12 rfl ab_k_iconst_1 ?_
  obtain ⟨h2, eh2, hf⟩ := ab_let_x hf
  refine ab_putI (pc2 := 16) rfl ht0 fa_X4_9 (Or.inl rfl) (fun z => by cases z) dX4_init_13 rfl ?_
  refine ab_topH eh2 ?_
  refine ab_aload_n (x := _) (pc2 := 17) dX4_init_16 rfl rfl ?_
  refine ab_dup (pc2 := 18) dX4_init_17 rfl (ab_rf1 _) ?_
  refine ab_getI (pc2 := 21) rfl ht0 fa_X4_15 (by decide) dX4_init_18 rfl ?_
  refine ab_iload (pc2 := 23) dX4_init_21 rfl rfl ?_
  refine ab_iadd (pc2 := 24) dX4_init_23 rfl ?_
  obtain ⟨h3, eh3, hf⟩ := ab_let_x hf
  refine ab_putI (pc2 := 27) rfl ht0 fa_X4_15 (Or.inl rfl) (fun z => by cases z) dX4_init_24 rfl ?_
  refine ab_topH eh3 ?_
  refine ab_aload_n (x := _) (pc2 := 28) dX4_init_27 rfl rfl ?_
  refine ab_aload_n (x := _) (pc2 := 29) dX4_init_28 rfl rfl ?_
  refine ab_getI (pc2 := 32) rfl ht0 fa_X4_15 (by decide) dX4_init_29 rfl ?_
  refine ab_iconst (pc2 := 33) (v := 2) dX4_init_32 rfl ab_k_iconst_2 ?_
  refine ab_idiv (pc2 := 34) dX4_init_33 rfl (by decide) ?_
  obtain ⟨h4, eh4, hf⟩ := ab_let_x hf
  refine ab_putI (pc2 := 37) rfl ht0 fa_X4_18 (Or.inl rfl) (fun z => by cases z) dX4_init_34 rfl ?_
  refine ab_topH eh4 ?_
  refine ab_aload_n (x := _) (pc2 := 38) dX4_init_37 rfl rfl ?_
  refine ab_dup (pc2 := 39) dX4_init_38 rfl (ab_rf1 _) ?_
  refine ab_getI (pc2 := 42) rfl ht0 fa_X4_21 (by decide) dX4_init_39 rfl ?_
  refine ab_iconst (pc2 := 43) (v := 3) dX4_init_42 rfl ab_k_iconst_3 ?_
  refine ab_imul (pc2 := 44) dX4_init_43 rfl ?_
  obtain ⟨h5, eh5, hf⟩ := ab_let_x hf
  refine ab_putI (pc2 := 47) rfl ht0 fa_X4_21 (Or.inl rfl) (fun z => by cases z) dX4_init_44 rfl ?_
  refine ab_topH eh5 ?_
  cases Option.some.inj hf
  exact ab_retV dX4_init_47 rfl (Nat.le_refl _) (Nat.le_refl _) ⟨rfl, rfl⟩
set_option maxHeartbeats 4000000 in
set_option maxRecDepth 100000 in
theorem m_X4_init {d : Nat} {t0 : Nat} {i1 : Int32} {i2 : Int32} {i3 : Int32} {i4 : Int32} {i5 : Int32} {h : ab_HP} {r : ab_HP} (ht0 : (ab_shp t0).1 = 4) (hf : f_X4_init t0 i1 i2 i3 i4 i5 h = some r) : ab_MET mX4_init (d + 2) 0 0 [va_rf (some t0), .int i1, .int i2, .int i3, .int i4, .int i5] h (ab_Pv r) := ab_met (by decide +kernel) (by decide +kernel) (Nat.le_of_ble_eq_true rfl) rfl (x_X4_init ht0 hf)
set_option maxHeartbeats 4000000 in
set_option maxRecDepth 100000 in
theorem x_X7_init {d : Nat} {t0 : Nat} {i1 : Int32} {i2 : Int32} {i3 : Int32} {i4 : Int32} {i5 : Int32} {h : ab_HP} {r : ab_HP} (ht0 : (ab_shp t0).1 = 4) (hf : f_X7_init t0 i1 i2 i3 i4 i5 h = some r) : ab_T mX7_init (d + 2) 0 0 0 0 0 [some (va_rf (some t0)), some (.int i1), some (.int i2), some (.int i3), some (.int i4), some (.int i5)] [] h (ab_Pv r) := by
  unfold f_X7_init at hf
  refine ab_aload_n (x := _) (pc2 := 1) dX7_init_0 rfl rfl ?_
  refine ab_iload_n (pc2 := 2) dX7_init_1 rfl rfl ?_
  refine ab_iload_n (pc2 := 3) dX7_init_2 rfl rfl ?_
  refine ab_iload_n (pc2 := 4) dX7_init_3 rfl rfl ?_
  refine ab_iload (pc2 := 6) dX7_init_4 rfl rfl ?_
  refine ab_iload (pc2 := 8) dX7_init_6 rfl rfl ?_
  obtain ⟨w1, ew1, hf⟩ := ab_bind hf
  refine ab_callI (pc2 := 11) (st := []) (m_X1_init (d := (d + 0)) ht0 ew1) mf_X1_init rfl rfl tw_49 tw_47 dX7_init_8 rfl (by omega) (Nat.le_refl _) (Nat.le_refl _) rfl (Nat.le_of_ble_eq_true rfl) (ab_kPv ?_)
  refine ab_aload_n (x := _) (pc2 := 12) dX7_init_11 rfl rfl ?_
  refine ab_iconst (pc2 := 13) (v := 2) dX7_init_12 rfl ab_k_iconst_2 ?_
  obtain ⟨h2, eh2, hf⟩ := ab_let_x hf
  refine ab_putI (pc2 := 16) rfl ht0 fa_X7_9 (Or.inl rfl) (fun z => by cases z) dX7_init_13 rfl ?_
  refine ab_topH eh2 ?_
  refine ab_aload_n (x := _) (pc2 := 17) dX7_init_16 rfl rfl ?_
  refine ab_iconst (pc2 := 18) (v := 0) dX7_init_17 rfl ab_k_iconst_0 ?_
  obtain ⟨h3, eh3, hf⟩ := ab_let_x hf
  refine ab_putI (pc2 := 21) rfl ht0 fa_X7_15 (Or.inl rfl) (fun z => by cases z) dX7_init_18 rfl ?_
  refine ab_topH eh3 ?_
  refine ab_aload_n (x := _) (pc2 := 22) dX7_init_21 rfl rfl ?_
  refine ab_dup (pc2 := 23) dX7_init_22 rfl (ab_rf1 _) ?_
  refine ab_getI (pc2 := 26) rfl ht0 fa_X7_18 (by decide) dX7_init_23 rfl ?_
  refine ab_iload (pc2 := 28) dX7_init_26 rfl rfl ?_
  refine ab_iadd (pc2 := 29) dX7_init_28 rfl ?_
  obtain ⟨h4, eh4, hf⟩ := ab_let_x hf
  refine ab_putI (pc2 := 32) rfl ht0 fa_X7_18 (Or.inl rfl) (fun z => by cases z) dX7_init_29 rfl ?_
  refine ab_topH eh4 ?_
  cases Option.some.inj hf
  exact ab_retV dX7_init_32 rfl (Nat.le_refl _) (Nat.le_refl _) ⟨rfl, rfl⟩
set_option maxHeartbeats 4000000 in
set_option maxRecDepth 100000 in
theorem m_X7_init {d : Nat} {t0 : Nat} {i1 : Int32} {i2 : Int32} {i3 : Int32} {i4 : Int32} {i5 : Int32} {h : ab_HP} {r : ab_HP} (ht0 : (ab_shp t0).1 = 4) (hf : f_X7_init t0 i1 i2 i3 i4 i5 h = some r) : ab_MET mX7_init (d + 2) 0 0 [va_rf (some t0), .int i1, .int i2, .int i3, .int i4, .int i5] h (ab_Pv r) := ab_met (by decide +kernel) (by decide +kernel) (Nat.le_of_ble_eq_true rfl) rfl (x_X7_init ht0 hf)
set_option maxHeartbeats 4000000 in
set_option maxRecDepth 100000 in
theorem x_X2_init {d : Nat} {t0 : Nat} {i1 : Int32} {i2 : Int32} {i3 : Int32} {i4 : Int32} {i5 : Int32} {h : ab_HP} {r : ab_HP} (ht0 : (ab_shp t0).1 = 4) (hf : f_X2_init t0 i1 i2 i3 i4 i5 h = some r) : ab_T mX2_init (d + 3) 0 0 0 0 0 [some (va_rf (some t0)), some (.int i1), some (.int i2), some (.int i3), some (.int i4), some (.int i5)] [] h (ab_Pv r) := by
  unfold f_X2_init at hf
  refine ab_aload_n (x := _) (pc2 := 1) dX2_init_0 rfl rfl ?_
  refine ab_iload_n (pc2 := 2) dX2_init_1 rfl rfl ?_
  refine ab_iload_n (pc2 := 3) dX2_init_2 rfl rfl ?_
  refine ab_iload_n (pc2 := 4) dX2_init_3 rfl rfl ?_
  refine ab_iload (pc2 := 6) dX2_init_4 rfl rfl ?_
  refine ab_iload (pc2 := 8) dX2_init_6 rfl rfl ?_
  obtain ⟨w1, ew1, hf⟩ := ab_bind hf
  refine ab_callI (pc2 := 11) (st := []) (m_X7_init (d := (d + 0)) ht0 ew1) mf_X7_init rfl rfl tw_51 tw_50 dX2_init_8 rfl (by omega) (Nat.le_refl _) (Nat.le_refl _) rfl (Nat.le_of_ble_eq_true rfl) (ab_kPv ?_)
  refine ab_aload_n (x := _) (pc2 := 12) dX2_init_11 rfl rfl ?_
  refine ab_iconst (pc2 := 13) (v := 3) dX2_init_12 rfl ab_k_iconst_3 ?_
  obtain ⟨h2, eh2, hf⟩ := ab_let_x hf
  refine ab_putI (pc2 := 16) rfl ht0 fa_X2_9 (Or.inl rfl) (fun z => by cases z) dX2_init_13 rfl ?_
  refine ab_topH eh2 ?_
  refine ab_aload_n (x := _) (pc2 := 17) dX2_init_16 rfl rfl ?_
  refine ab_dup (pc2 := 18) dX2_init_17 rfl (ab_rf1 _) ?_
  refine ab_getI (pc2 := 21) rfl ht0 fa_X2_15 (by decide) dX2_init_18 rfl ?_
  refine ab_iconst (pc2 := 22) (v := 2) dX2_init_21 rfl ab_k_iconst_2 ?_
  refine ab_idiv (pc2 := 23) dX2_init_22 rfl (by decide) ?_
  obtain ⟨h3, eh3, hf⟩ := ab_let_x hf
  refine ab_putI (pc2 := 26) rfl ht0 fa_X2_15 (Or.inl rfl) (fun z => by cases z) dX2_init_23 rfl ?_
  refine ab_topH eh3 ?_
  refine ab_aload_n (x := _) (pc2 := 27) dX2_init_26 rfl rfl ?_
  refine ab_iload (pc2 := 29) dX2_init_27 rfl rfl ?_
  obtain ⟨h4, eh4, hf⟩ := ab_let_x hf
  refine ab_putI (pc2 := 32) rfl ht0 fa_X2_18 (Or.inl rfl) (fun z => by cases z) dX2_init_29 rfl ?_
  refine ab_topH eh4 ?_
  refine ab_aload_n (x := _) (pc2 := 33) dX2_init_32 rfl rfl ?_
  refine ab_dup (pc2 := 34) dX2_init_33 rfl (ab_rf1 _) ?_
  refine ab_getI (pc2 := 37) rfl ht0 fa_X2_21 (by decide) dX2_init_34 rfl ?_
  refine ab_iload (pc2 := 39) dX2_init_37 rfl rfl ?_
  refine ab_isub (pc2 := 40) dX2_init_39 rfl ?_
  obtain ⟨h5, eh5, hf⟩ := ab_let_x hf
  refine ab_putI (pc2 := 43) rfl ht0 fa_X2_21 (Or.inl rfl) (fun z => by cases z) dX2_init_40 rfl ?_
  refine ab_topH eh5 ?_
  refine ab_aload_n (x := _) (pc2 := 44) dX2_init_43 rfl rfl ?_
  refine ab_iconst (pc2 := 45) (v := 0) dX2_init_44 rfl ab_k_iconst_0 ?_
  obtain ⟨h6, eh6, hf⟩ := ab_let_x hf
  refine ab_putI (pc2 := 48) rfl ht0 fa_X2_24 (Or.inr ⟨rfl, (Or.inl rfl)⟩) (fun z => by cases z) dX2_init_45 rfl ?_
  refine ab_topH eh6 ?_
  cases Option.some.inj hf
  exact ab_retV dX2_init_48 rfl (Nat.le_refl _) (Nat.le_refl _) ⟨rfl, rfl⟩
set_option maxHeartbeats 4000000 in
set_option maxRecDepth 100000 in
theorem m_X2_init {d : Nat} {t0 : Nat} {i1 : Int32} {i2 : Int32} {i3 : Int32} {i4 : Int32} {i5 : Int32} {h : ab_HP} {r : ab_HP} (ht0 : (ab_shp t0).1 = 4) (hf : f_X2_init t0 i1 i2 i3 i4 i5 h = some r) : ab_MET mX2_init (d + 3) 0 0 [va_rf (some t0), .int i1, .int i2, .int i3, .int i4, .int i5] h (ab_Pv r) := ab_met (by decide +kernel) (by decide +kernel) (Nat.le_of_ble_eq_true rfl) rfl (x_X2_init ht0 hf)
set_option maxHeartbeats 4000000 in
set_option maxRecDepth 100000 in
theorem x_X5_init {d : Nat} {t0 : Nat} {i1 : Int32} {i2 : Int32} {i3 : Int32} {i4 : Int32} {i5 : Int32} {h : ab_HP} {r : ab_HP} (ht0 : (ab_shp t0).1 = 4) (hf : f_X5_init t0 i1 i2 i3 i4 i5 h = some r) : ab_T mX5_init (d + 2) 0 0 0 0 0 [some (va_rf (some t0)), some (.int i1), some (.int i2), some (.int i3), some (.int i4), some (.int i5)] [] h (ab_Pv r) := by
  unfold f_X5_init at hf
  refine ab_aload_n (x := _) (pc2 := 1) dX5_init_0 rfl rfl ?_
  refine ab_iload_n (pc2 := 2) dX5_init_1 rfl rfl ?_
  refine ab_iload_n (pc2 := 3) dX5_init_2 rfl rfl ?_
  refine ab_iload_n (pc2 := 4) dX5_init_3 rfl rfl ?_
  refine ab_iload (pc2 := 6) dX5_init_4 rfl rfl ?_
  refine ab_iload (pc2 := 8) dX5_init_6 rfl rfl ?_
  obtain ⟨w1, ew1, hf⟩ := ab_bind hf
  refine ab_callI (pc2 := 11) (st := []) (m_X1_init (d := (d + 0)) ht0 ew1) mf_X1_init rfl rfl tw_52 tw_47 dX5_init_8 rfl (by omega) (Nat.le_refl _) (Nat.le_refl _) rfl (Nat.le_of_ble_eq_true rfl) (ab_kPv ?_)
  refine ab_aload_n (x := _) (pc2 := 12) dX5_init_11 rfl rfl ?_
  refine ab_iconst (pc2 := 13) (v := 4) dX5_init_12 rfl ab_k_iconst_4 ?_
  obtain ⟨h2, eh2, hf⟩ := ab_let_x hf
  refine ab_putI (pc2 := 16) rfl ht0 fa_X5_9 (Or.inl rfl) (fun z => by cases z) dX5_init_13 rfl ?_
  refine ab_topH eh2 ?_
  refine ab_aload_n (x := _) (pc2 := 17) dX5_init_16 rfl rfl ?_
  refine ab_iconst (pc2 := 18) (v := 0) dX5_init_17 rfl ab_k_iconst_0 ?_
  obtain ⟨h3, eh3, hf⟩ := ab_let_x hf
  refine ab_putI (pc2 := 21) rfl ht0 fa_X5_15 (Or.inl rfl) (fun z => by cases z) dX5_init_18 rfl ?_
  refine ab_topH eh3 ?_
  refine ab_aload_n (x := _) (pc2 := 22) dX5_init_21 rfl rfl ?_
  refine ab_iconst (pc2 := 23) (v := 0) dX5_init_22 rfl ab_k_iconst_0 ?_
  obtain ⟨h4, eh4, hf⟩ := ab_let_x hf
  refine ab_putI (pc2 := 26) rfl ht0 fa_X5_18 (Or.inl rfl) (fun z => by cases z) dX5_init_23 rfl ?_
  refine ab_topH eh4 ?_
  refine ab_aload_n (x := _) (pc2 := 27) dX5_init_26 rfl rfl ?_
  refine ab_iload (pc2 := 29) dX5_init_27 rfl rfl ?_
  refine ab_iconst (pc2 := 30) (v := 5) dX5_init_29 rfl ab_k_iconst_5 ?_
  refine ab_icmp_lt (tgt := 37) (pc2 := 33) dX5_init_30 (by decide) rfl hf (fun c5 hf => ?_) (fun c5 hf => ?_)
  · refine ab_iconst (pc2 := 38) (v := 0) dX5_init_37 rfl ab_k_iconst_0 ?_
    obtain ⟨h6, eh6, hf⟩ := ab_let_x hf
    refine ab_putI (pc2 := 41) rfl ht0 fa_X5_21 (Or.inr ⟨rfl, (Or.inl rfl)⟩) (fun z => by cases z) dX5_init_38 rfl ?_
    refine ab_topH eh6 ?_
    refine ab_aload_n (x := _) (pc2 := 42) dX5_init_41 rfl rfl ?_
    refine ab_dup (pc2 := 43) dX5_init_42 rfl (ab_rf1 _) ?_
    refine ab_getI (pc2 := 46) rfl ht0 fa_X5_25 (by decide) dX5_init_43 rfl ?_
    refine ab_iconst (pc2 := 47) (v := 3) dX5_init_46 rfl ab_k_iconst_3 ?_
    refine ab_isub (pc2 := 48) dX5_init_47 rfl ?_
    obtain ⟨h7, eh7, hf⟩ := ab_let_x hf
    refine ab_putI (pc2 := 51) rfl ht0 fa_X5_25 (Or.inl rfl) (fun z => by cases z) dX5_init_48 rfl ?_
    refine ab_topH eh7 ?_
    cases Option.some.inj hf
    exact ab_retV dX5_init_51 rfl (Nat.le_refl _) (Nat.le_refl _) ⟨rfl, rfl⟩
  · refine ab_iconst (pc2 := 34) (v := 1) dX5_init_33 rfl ab_k_iconst_1 ?_
    refine ab_goto (tgt := 38) dX5_init_34 (by decide) ?_
    obtain ⟨h8, eh8, hf⟩ := ab_let_x hf
    refine ab_putI (pc2 := 41) rfl ht0 fa_X5_21 (Or.inr ⟨rfl, (Or.inr rfl)⟩) (fun z => by cases z) dX5_init_38 rfl ?_
    refine ab_topH eh8 ?_
    refine ab_aload_n (x := _) (pc2 := 42) dX5_init_41 rfl rfl ?_
    refine ab_dup (pc2 := 43) dX5_init_42 rfl (ab_rf1 _) ?_
    refine ab_getI (pc2 := 46) rfl ht0 fa_X5_25 (by decide) dX5_init_43 rfl ?_
    refine ab_iconst (pc2 := 47) (v := 3) dX5_init_46 rfl ab_k_iconst_3 ?_
    refine ab_isub (pc2 := 48) dX5_init_47 rfl ?_
    obtain ⟨h9, eh9, hf⟩ := ab_let_x hf
    refine ab_putI (pc2 := 51) rfl ht0 fa_X5_25 (Or.inl rfl) (fun z => by cases z) dX5_init_48 rfl ?_
    refine ab_topH eh9 ?_
    cases Option.some.inj hf
    exact ab_retV dX5_init_51 rfl (Nat.le_refl _) (Nat.le_refl _) ⟨rfl, rfl⟩
set_option maxHeartbeats 4000000 in
set_option maxRecDepth 100000 in
theorem m_X5_init {d : Nat} {t0 : Nat} {i1 : Int32} {i2 : Int32} {i3 : Int32} {i4 : Int32} {i5 : Int32} {h : ab_HP} {r : ab_HP} (ht0 : (ab_shp t0).1 = 4) (hf : f_X5_init t0 i1 i2 i3 i4 i5 h = some r) : ab_MET mX5_init (d + 2) 0 0 [va_rf (some t0), .int i1, .int i2, .int i3, .int i4, .int i5] h (ab_Pv r) := ab_met (by decide +kernel) (by decide +kernel) (Nat.le_of_ble_eq_true rfl) rfl (x_X5_init ht0 hf)
set_option maxHeartbeats 4000000 in
set_option maxRecDepth 100000 in
theorem x_X0_init {d : Nat} {t0 : Nat} {i1 : Int32} {i2 : Int32} {i3 : Int32} {i4 : Int32} {i5 : Int32} {h : ab_HP} {r : ab_HP} (ht0 : (ab_shp t0).1 = 4) (hf : f_X0_init t0 i1 i2 i3 i4 i5 h = some r) : ab_T mX0_init (d + 3) 0 0 0 0 0 [some (va_rf (some t0)), some (.int i1), some (.int i2), some (.int i3), some (.int i4), some (.int i5)] [] h (ab_Pv r) := by
  unfold f_X0_init at hf
  refine ab_aload_n (x := _) (pc2 := 1) dX0_init_0 rfl rfl ?_
  refine ab_iload_n (pc2 := 2) dX0_init_1 rfl rfl ?_
  refine ab_iload_n (pc2 := 3) dX0_init_2 rfl rfl ?_
  refine ab_iload_n (pc2 := 4) dX0_init_3 rfl rfl ?_
  refine ab_iload (pc2 := 6) dX0_init_4 rfl rfl ?_
  refine ab_iload (pc2 := 8) dX0_init_6 rfl rfl ?_
  obtain ⟨w1, ew1, hf⟩ := ab_bind hf
  refine ab_callI (pc2 := 11) (st := []) (m_X4_init (d := (d + 0)) ht0 ew1) mf_X4_init rfl rfl tw_54 tw_53 dX0_init_8 rfl (by omega) (Nat.le_refl _) (Nat.le_refl _) rfl (Nat.le_of_ble_eq_true rfl) (ab_kPv ?_)
  refine ab_aload_n (x := _) (pc2 := 12) dX0_init_11 rfl rfl ?_
  refine ab_iconst (pc2 := 13) (v := 5) dX0_init_12 rfl ab_k_iconst_5 ?_
  obtain ⟨h2, eh2, hf⟩ := ab_let_x hf
  refine ab_putI (pc2 := 16) rfl ht0 fa_X0_9 (Or.inl rfl) (fun z => by cases z) dX0_init_13 rfl ?_
  refine ab_topH eh2 ?_
  refine ab_aload_n (x := _) (pc2 := 17) dX0_init_16 rfl rfl ?_
  refine ab_dup (pc2 := 18) dX0_init_17 rfl (ab_rf1 _) ?_
  refine ab_getI (pc2 := 21) rfl ht0 fa_X0_15 (by decide) dX0_init_18 rfl ?_
  refine ab_iconst (pc2 := 22) (v := 5) dX0_init_21 rfl ab_k_iconst_5 ?_
  refine ab_iadd (pc2 := 23) dX0_init_22 rfl ?_
  obtain ⟨h3, eh3, hf⟩ := ab_let_x hf
  refine ab_putI (pc2 := 26) rfl ht0 fa_X0_15 (Or.inl rfl) (fun z => by cases z) dX0_init_23 rfl ?_
  refine ab_topH eh3 ?_
  refine ab_aload_n (x := _) (pc2 := 27) dX0_init_26 rfl rfl ?_
  refine ab_aload_n (x := _) (pc2 := 28) dX0_init_27 rfl rfl ?_
  refine ab_getI (pc2 := 31) rfl ht0 fa_X0_15 (by decide) dX0_init_28 rfl ?_
  refine ab_iconst (pc2 := 32) (v := 2) dX0_init_31 rfl ab_k_iconst_2 ?_
  refine ab_idiv (pc2 := 33) dX0_init_32 rfl (by decide) ?_
  obtain ⟨h4, eh4, hf⟩ := ab_let_x hf
  refine ab_putI (pc2 := 36) rfl ht0 fa_X0_18 (Or.inl rfl) (fun z => by cases z) dX0_init_33 rfl ?_
  refine ab_topH eh4 ?_
  refine ab_aload_n (x := _) (pc2 := 37) dX0_init_36 rfl rfl ?_
  refine ab_iload (pc2 := 39) dX0_init_37 rfl rfl ?_
  refine ab_bipush (pc2 := 41) (v := 9) dX0_init_39 rfl ab_k_bipush_9 ?_
  refine ab_icmp_ne (tgt := 48) (pc2 := 44) dX0_init_41 (by decide) rfl hf (fun c5 hf => ?_) (fun c5 hf => ?_)
  · refine ab_iconst (pc2 := 49) (v := 0) dX0_init_48 rfl ab_k_iconst_0 ?_
    obtain ⟨h6, eh6, hf⟩ := ab_let_x hf
    refine ab_putI (pc2 := 52) rfl ht0 fa_X0_21 (Or.inr ⟨rfl, (Or.inl rfl)⟩) (fun z => by cases z) dX0_init_49 rfl ?_
    refine ab_topH eh6 ?_
    refine ab_aload_n (x := _) (pc2 := 53) dX0_init_52 rfl rfl ?_
    refine ab_dup (pc2 := 54) dX0_init_53 rfl (ab_rf1 _) ?_
    refine ab_getI (pc2 := 57) rfl ht0 fa_X0_25 (by decide) dX0_init_54 rfl ?_
    refine ab_iconst (pc2 := 58) (v := 1) dX0_init_57 rfl ab_k_iconst_1 ?_
    refine ab_iadd (pc2 := 59) dX0_init_58 rfl ?_
    obtain ⟨h7, eh7, hf⟩ := ab_let_x hf
    refine ab_putI (pc2 := 62) rfl ht0 fa_X0_25 (Or.inl rfl) (fun z => by cases z) dX0_init_59 rfl ?_
    refine ab_topH eh7 ?_
    refine ab_aload_n (x := _) (pc2 := 63) dX0_init_62 rfl rfl ?_
    refine ab_dup (pc2 := 64) dX0_init_63 rfl (ab_rf1 _) ?_
    refine ab_getI (pc2 := 67) rfl ht0 fa_X0_28 (by decide) dX0_init_64 rfl ?_
    refine ab_bipush (pc2 := 69) (v := 100) dX0_init_67 rfl ab_k_bipush_100 ?_
    refine ab_iadd (pc2 := 70) dX0_init_69 rfl ?_
    obtain ⟨h8, eh8, hf⟩ := ab_let_x hf
    refine ab_putI (pc2 := 73) rfl ht0 fa_X0_28 (Or.inl rfl) (fun z => by cases z) dX0_init_70 rfl ?_
    refine ab_topH eh8 ?_
    cases Option.some.inj hf
    exact ab_retV dX0_init_73 rfl (Nat.le_refl _) (Nat.le_refl _) ⟨rfl, rfl⟩
  · refine ab_iconst (pc2 := 45) (v := 1) dX0_init_44 rfl ab_k_iconst_1 ?_
    refine ab_goto (tgt := 49) dX0_init_45 (by decide) ?_
    obtain ⟨h9, eh9, hf⟩ := ab_let_x hf
    refine ab_putI (pc2 := 52) rfl ht0 fa_X0_21 (Or.inr ⟨rfl, (Or.inr rfl)⟩) (fun z => by cases z) dX0_init_49 rfl ?_
    refine ab_topH eh9 ?_
    refine ab_aload_n (x := _) (pc2 := 53) dX0_init_52 rfl rfl ?_
    refine ab_dup (pc2 := 54) dX0_init_53 rfl (ab_rf1 _) ?_
    refine ab_getI (pc2 := 57) rfl ht0 fa_X0_25 (by decide) dX0_init_54 rfl ?_
    refine ab_iconst (pc2 := 58) (v := 1) dX0_init_57 rfl ab_k_iconst_1 ?_
    refine ab_iadd (pc2 := 59) dX0_init_58 rfl ?_
    obtain ⟨h10, eh10, hf⟩ := ab_let_x hf
    refine ab_putI (pc2 := 62) rfl ht0 fa_X0_25 (Or.inl rfl) (fun z => by cases z) dX0_init_59 rfl ?_
    refine ab_topH eh10 ?_
    refine ab_aload_n (x := _) (pc2 := 63) dX0_init_62 rfl rfl ?_
    refine ab_dup (pc2 := 64) dX0_init_63 rfl (ab_rf1 _) ?_
    refine ab_getI (pc2 := 67) rfl ht0 fa_X0_28 (by decide) dX0_init_64 rfl ?_
    refine ab_bipush (pc2 := 69) (v := 100) dX0_init_67 rfl ab_k_bipush_100 ?_
    refine ab_iadd (pc2 := 70) dX0_init_69 rfl ?_
    obtain ⟨h11, eh11, hf⟩ := ab_let_x hf
    refine ab_putI (pc2 := 73) rfl ht0 fa_X0_28 (Or.inl rfl) (fun z => by cases z) dX0_init_70 rfl ?_
    refine ab_topH eh11 ?_
    cases Option.some.inj hf
    exact ab_retV dX0_init_73 rfl (Nat.le_refl _) (Nat.le_refl _) ⟨rfl, rfl⟩
set_option maxHeartbeats 4000000 in
set_option maxRecDepth 100000 in
theorem m_X0_init {d : Nat} {t0 : Nat} {i1 : Int32} {i2 : Int32} {i3 : Int32} {i4 : Int32} {i5 : Int32} {h : ab_HP} {r : ab_HP} (ht0 : (ab_shp t0).1 = 4) (hf : f_X0_init t0 i1 i2 i3 i4 i5 h = some r) : ab_MET mX0_init (d + 3) 0 0 [va_rf (some t0), .int i1, .int i2, .int i3, .int i4, .int i5] h (ab_Pv r) := ab_met (by decide +kernel) (by decide +kernel) (Nat.le_of_ble_eq_true rfl) rfl (x_X0_init ht0 hf)
set_option maxHeartbeats 4000000 in
set_option maxRecDepth 100000 in
theorem x_X3_init {d : Nat} {t0 : Nat} {i1 : Int32} {i2 : Int32} {i3 : Int32} {i4 : Int32} {i5 : Int32} {h : ab_HP} {r : ab_HP} (ht0 : (ab_shp t0).1 = 4) (hf : f_X3_init t0 i1 i2 i3 i4 i5 h = some r) : ab_T mX3_init (d + 2) 0 0 0 0 0 [some (va_rf (some t0)), some (.int i1), some (.int i2), some (.int i3), some (.int i4), some (.int i5)] [] h (ab_Pv r) := by
  unfold f_X3_init at hf
  refine ab_aload_n (x := _) (pc2 := 1) dX3_init_0 rfl rfl ?_
  refine ab_iload_n (pc2 := 2) dX3_init_1 rfl rfl ?_
  refine ab_iload_n (pc2 := 3) dX3_init_2 rfl rfl ?_
  refine ab_iload_n (pc2 := 4) dX3_init_3 rfl rfl ?_
  refine ab_iload (pc2 := 6) dX3_init_4 rfl rfl ?_
  refine ab_iload (pc2 := 8) dX3_init_6 rfl rfl ?_
  obtain ⟨w1, ew1, hf⟩ := ab_bind hf
  refine ab_callI (pc2 := 11) (st := []) (m_X1_init (d := (d + 0)) ht0 ew1) mf_X1_init rfl rfl tw_55 tw_47 dX3_init_8 rfl (by omega) (Nat.le_refl _) (Nat.le_refl _) rfl (Nat.le_of_ble_eq_true rfl) (ab_kPv ?_)
  refine ab_aload_n (x := _) (pc2 := 12) dX3_init_11 rfl rfl ?_
  refine ab_bipush (pc2 := 14) (v := 6) dX3_init_12 rfl ab_k_bipush_6 ?_
  obtain ⟨h2, eh2, hf⟩ := ab_let_x hf
  refine ab_putI (pc2 := 17) rfl ht0 fa_X3_9 (Or.inl rfl) (fun z => by cases z) dX3_init_14 rfl ?_
  refine ab_topH eh2 ?_
  refine ab_aload_n (x := _) (pc2 := 18) dX3_init_17 rfl rfl ?_
  refine ab_aload_n (x := _) (pc2 := 19) dX3_init_18 rfl rfl ?_
  refine ab_getI (pc2 := 22) rfl ht0 fa_X3_15 (by decide) dX3_init_19 rfl ?_
  obtain ⟨h3, eh3, hf⟩ := ab_let_x hf
  refine ab_putI (pc2 := 25) rfl ht0 fa_X3_18 (Or.inl rfl) (fun z => by cases z) dX3_init_22 rfl ?_
  refine ab_topH eh3 ?_
  refine ab_aload_n (x := _) (pc2 := 26) dX3_init_25 rfl rfl ?_
  refine ab_iconst (pc2 := 27) (v := 0) dX3_init_26 rfl ab_k_iconst_0 ?_
  obtain ⟨h4, eh4, hf⟩ := ab_let_x hf
  refine ab_putI (pc2 := 30) rfl ht0 fa_X3_15 (Or.inl rfl) (fun z => by cases z) dX3_init_27 rfl ?_
  refine ab_topH eh4 ?_
  refine ab_aload_n (x := _) (pc2 := 31) dX3_init_30 rfl rfl ?_
  refine ab_dup (pc2 := 32) dX3_init_31 rfl (ab_rf1 _) ?_
  refine ab_getI (pc2 := 35) rfl ht0 fa_X3_21 (by decide) dX3_init_32 rfl ?_
  refine ab_iconst (pc2 := 36) (v := 2) dX3_init_35 rfl ab_k_iconst_2 ?_
  refine ab_imul (pc2 := 37) dX3_init_36 rfl ?_
  obtain ⟨h5, eh5, hf⟩ := ab_let_x hf
  refine ab_putI (pc2 := 40) rfl ht0 fa_X3_21 (Or.inl rfl) (fun z => by cases z) dX3_init_37 rfl ?_
  refine ab_topH eh5 ?_
  cases Option.some.inj hf
  exact ab_retV dX3_init_40 rfl (Nat.le_refl _) (Nat.le_refl _) ⟨rfl, rfl⟩
set_option maxHeartbeats 4000000 in
set_option maxRecDepth 100000 in
theorem m_X3_init {d : Nat} {t0 : Nat} {i1 : Int32} {i2 : Int32} {i3 : Int32} {i4 : Int32} {i5 : Int32} {h : ab_HP} {r : ab_HP} (ht0 : (ab_shp t0).1 = 4) (hf : f_X3_init t0 i1 i2 i3 i4 i5 h = some r) : ab_MET mX3_init (d + 2) 0 0 [va_rf (some t0), .int i1, .int i2, .int i3, .int i4, .int i5] h (ab_Pv r) := ab_met (by decide +kernel) (by decide +kernel) (Nat.le_of_ble_eq_true rfl) rfl (x_X3_init ht0 hf)
set_option maxHeartbeats 4000000 in
set_option maxRecDepth 100000 in
theorem x_X8_init {d : Nat} {t0 : Nat} {i1 : Int32} {i2 : Int32} {i3 : Int32} {i4 : Int32} {i5 : Int32} {h : ab_HP} {r : ab_HP} (ht0 : (ab_shp t0).1 = 4) (hf : f_X8_init t0 i1 i2 i3 i4 i5 h = some r) : ab_T mX8_init (d + 3) 0 0 0 0 0 [some (va_rf (some t0)), some (.int i1), some (.int i2), some (.int i3), some (.int i4), some (.int i5)] [] h (ab_Pv r) := by
  unfold f_X8_init at hf
  refine ab_aload_n (x := _) (pc2 := 1) dX8_init_0 rfl rfl ?_
  refine ab_iload_n (pc2 := 2) dX8_init_1 rfl rfl ?_
  refine ab_iload_n (pc2 := 3) dX8_init_2 rfl rfl ?_
  refine ab_iload_n (pc2 := 4) dX8_init_3 rfl rfl ?_
  refine ab_iload (pc2 := 6) dX8_init_4 rfl rfl ?_
  refine ab_iload (pc2 := 8) dX8_init_6 rfl rfl ?_
  obtain ⟨w1, ew1, hf⟩ := ab_bind hf
  refine ab_callI (pc2 := 11) (st := []) (m_X5_init (d := (d + 0)) ht0 ew1) mf_X5_init rfl rfl tw_57 tw_56 dX8_init_8 rfl (by omega) (Nat.le_refl _) (Nat.le_refl _) rfl (Nat.le_of_ble_eq_true rfl) (ab_kPv ?_)
  refine ab_aload_n (x := _) (pc2 := 12) dX8_init_11 rfl rfl ?_
  refine ab_bipush (pc2 := 14) (v := 7) dX8_init_12 rfl ab_k_bipush_7 ?_
  obtain ⟨h2, eh2, hf⟩ := ab_let_x hf
  refine ab_putI (pc2 := 17) rfl ht0 fa_X8_9 (Or.inl rfl) (fun z => by cases z) dX8_init_14 rfl ?_
  refine ab_topH eh2 ?_
  refine ab_aload_n (x := _) (pc2 := 18) dX8_init_17 rfl rfl ?_
  refine ab_dup (pc2 := 19) dX8_init_18 rfl (ab_rf1 _) ?_
  refine ab_getI (pc2 := 22) rfl ht0 fa_X8_15 (by decide) dX8_init_19 rfl ?_
  refine ab_iconst (pc2 := 23) (v := 1) dX8_init_22 rfl ab_k_iconst_1 ?_
  refine ab_iload (pc2 := 25) dX8_init_23 rfl rfl ?_
  refine ab_ishl (pc2 := 26) dX8_init_25 rfl ?_
  refine ab_ior (pc2 := 27) dX8_init_26 rfl ?_
  obtain ⟨h3, eh3, hf⟩ := ab_let_x hf
  refine ab_putI (pc2 := 30) rfl ht0 fa_X8_15 (Or.inl rfl) (fun z => by cases z) dX8_init_27 rfl ?_
  refine ab_topH eh3 ?_
  refine ab_aload_n (x := _) (pc2 := 31) dX8_init_30 rfl rfl ?_
  refine ab_dup (pc2 := 32) dX8_init_31 rfl (ab_rf1 _) ?_
  refine ab_getI (pc2 := 35) rfl ht0 fa_X8_18 (by decide) dX8_init_32 rfl ?_
  refine ab_iload (pc2 := 37) dX8_init_35 rfl rfl ?_
  refine ab_imul (pc2 := 38) dX8_init_37 rfl ?_
  obtain ⟨h4, eh4, hf⟩ := ab_let_x hf
  refine ab_putI (pc2 := 41) rfl ht0 fa_X8_18 (Or.inl rfl) (fun z => by cases z) dX8_init_38 rfl ?_
  refine ab_topH eh4 ?_
  refine ab_aload_n (x := _) (pc2 := 42) dX8_init_41 rfl rfl ?_
  refine ab_sipush (pc2 := 45) (v := 200) dX8_init_42 rfl ab_k_sipush_200 ?_
  refine ab_aload_n (x := _) (pc2 := 46) dX8_init_45 rfl rfl ?_
  refine ab_getI (pc2 := 49) rfl ht0 fa_X8_18 (by decide) dX8_init_46 rfl ?_
  refine ab_iadd (pc2 := 50) dX8_init_49 rfl ?_
  obtain ⟨h5, eh5, hf⟩ := ab_let_x hf
  refine ab_putI (pc2 := 53) rfl ht0 fa_X8_21 (Or.inl rfl) (fun z => by cases z) dX8_init_50 rfl ?_
  refine ab_topH eh5 ?_
  cases Option.some.inj hf
  exact ab_retV dX8_init_53 rfl (Nat.le_refl _) (Nat.le_refl _) ⟨rfl, rfl⟩
set_option maxHeartbeats 4000000 in
set_option maxRecDepth 100000 in
theorem m_X8_init {d : Nat} {t0 : Nat} {i1 : Int32} {i2 : Int32} {i3 : Int32} {i4 : Int32} {i5 : Int32} {h : ab_HP} {r : ab_HP} (ht0 : (ab_shp t0).1 = 4) (hf : f_X8_init t0 i1 i2 i3 i4 i5 h = some r) : ab_MET mX8_init (d + 3) 0 0 [va_rf (some t0), .int i1, .int i2, .int i3, .int i4, .int i5] h (ab_Pv r) := ab_met (by decide +kernel) (by decide +kernel) (Nat.le_of_ble_eq_true rfl) rfl (x_X8_init ht0 hf)
