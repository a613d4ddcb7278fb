set_option maxHeartbeats 4000000 in
set_option maxRecDepth 100000 in
theorem x_X12_byLaw {d : Nat} {t0 : Nat} {i1 : Int32} {i2 : Int32} {i3 : Int32} {h : ab_HP} {r : (Int32 × ab_HP)} (ht0 : (ab_shp t0).1 = 5) (hf : f_X12_byLaw t0 i1 i2 i3 h = some r) : ab_T mX12_byLaw (d + 7) 0 0 0 0 0 [some (va_rf (some t0)), some (.int i1), some (.int i2), some (.int i3), none, none] [] h (ab_Pi r.1 r.2) := by
  unfold f_X12_byLaw at hf
  refine ab_iload_n (pc2 := 1) dX12_byLaw_0 rfl rfl ?_
  refine ab_i2l (pc2 := 2) dX12_byLaw_1 rfl ?_
  refine ab_lconst (pc2 := 3) (v := 0) dX12_byLaw_2 rfl rfl ?_
  refine ab_ldc2 (pc2 := 6) (v := 2) dX12_byLaw_3 rfl tw_143 ?_
  obtain ⟨w1, ew1, hf⟩ := ab_bind hf
  refine ab_callS (pc2 := 9) (st := []) (m_X12_isIn (d := (d + 6)) ew1) mf_X12_isIn tw_101 tw_102 dX12_byLaw_6 rfl (by omega) (Nat.le_refl _) (Nat.le_refl _) rfl (Nat.le_of_ble_eq_true rfl) (ab_kPb fun z2 => ?_)
  refine ab_if_eq (tgt := 26) (pc2 := 12) dX12_byLaw_9 (by decide) rfl hf (fun c3 hf => ?_) (fun c3 hf => ?_)
  · refine ab_iconst (pc2 := 27) (v := (-1)) dX12_byLaw_26 rfl ab_k_iconst_m1 ?_
    cases Option.some.inj hf
    exact ab_retI dX12_byLaw_27 (Or.inl rfl) (Nat.le_refl _) (Nat.le_refl _) ⟨rfl, rfl⟩
  · refine ab_iload_n (pc2 := 13) dX12_byLaw_12 rfl rfl ?_
    obtain ⟨w4, ew4, hf⟩ := ab_bind hf
    refine ab_callS (pc2 := 16) (st := []) (m_X12_isShelf (d := (d + 5)) ew4) mf_X12_isShelf tw_103 tw_104 dX12_byLaw_13 rfl (by omega) (Nat.le_refl _) (Nat.le_refl _) rfl (Nat.le_of_ble_eq_true rfl) (ab_kPb fun z5 => ?_)
    refine ab_if_eq (tgt := 26) (pc2 := 19) dX12_byLaw_16 (by decide) rfl hf (fun c6 hf => ?_) (fun c6 hf => ?_)
    · refine ab_iconst (pc2 := 27) (v := (-1)) dX12_byLaw_26 rfl ab_k_iconst_m1 ?_
      cases Option.some.inj hf
      exact ab_retI dX12_byLaw_27 (Or.inl rfl) (Nat.le_refl _) (Nat.le_refl _) ⟨rfl, rfl⟩
    · refine ab_iload_n (pc2 := 20) dX12_byLaw_19 rfl rfl ?_
      obtain ⟨w7, ew7, hf⟩ := ab_bind hf
      refine ab_callS (pc2 := 23) (st := []) (m_X12_areNails (d := (d + 5)) ew7) mf_X12_areNails tw_223 tw_224 dX12_byLaw_20 rfl (by omega) (Nat.le_refl _) (Nat.le_refl _) rfl (Nat.le_of_ble_eq_true rfl) (ab_kPb fun z8 => ?_)
      refine ab_if_ne (tgt := 28) (pc2 := 26) dX12_byLaw_23 (by decide) rfl hf (fun c9 hf => ?_) (fun c9 hf => ?_)
      · refine ab_aload_n (x := _) (pc2 := 29) dX12_byLaw_28 rfl rfl ?_
        refine ab_iload_n (pc2 := 30) dX12_byLaw_29 rfl rfl ?_
        obtain ⟨w10, ew10, hf⟩ := ab_bind hf
        refine ab_callV (pc2 := 33) (st := []) rfl ht0 (by decide) (m_X12_wrongList (d := (d + 3)) ht0 ew10) mf_X12_wrongList tw_226 tw_225 ts_X12_wrongList (Or.inl (by decide +kernel)) dX12_byLaw_30 rfl (by omega) (Nat.le_refl _) (Nat.le_refl _) rfl (Nat.le_of_ble_eq_true rfl) (ab_kPi ?_)
        refine ab_istore (pc2 := 35) (lo2 := [some (va_rf _), some (.int _), some (.int _), some (.int _), some (.int _), none]) dX12_byLaw_33 rfl (by decide) rfl ?_
        refine ab_iload (pc2 := 37) dX12_byLaw_35 rfl rfl ?_
        refine ab_if_eq (tgt := 43) (pc2 := 40) dX12_byLaw_37 (by decide) rfl hf (fun c11 hf => ?_) (fun c11 hf => ?_)
        · refine ab_aload_n (x := _) (pc2 := 44) dX12_byLaw_43 rfl rfl ?_
          refine ab_getR (pc2 := 47) rfl ht0 fa_X12_9 dX12_byLaw_44 rfl (fun T12 => ?_)
          refine ab_iconst (pc2 := 48) (v := 3) dX12_byLaw_47 rfl ab_k_iconst_3 ?_
          obtain ⟨q13, hq13, hf⟩ := ab_bind hf
          obtain ⟨b14, hf⟩ := ab_guard hf
          refine ab_iald (pc2 := 49) hq13 (T12 q13 hq13) (ab_in_vp b14) dX12_byLaw_48 rfl ?_
          refine ab_istore (pc2 := 51) (lo2 := [some (va_rf _), some (.int _), some (.int _), some (.int _), some (.int _), some (.int _)]) dX12_byLaw_49 rfl (by decide) rfl ?_
          refine ab_aload_n (x := _) (pc2 := 52) dX12_byLaw_51 rfl rfl ?_
          refine ab_getR (pc2 := 55) rfl ht0 fa_X12_9 dX12_byLaw_52 rfl (fun T15 => ?_)
          refine ab_iconst (pc2 := 56) (v := 3) dX12_byLaw_55 rfl ab_k_iconst_3 ?_
          refine ab_iload_n (pc2 := 57) dX12_byLaw_56 rfl rfl ?_
          obtain ⟨q16, hq16, hf⟩ := ab_bind hf
          obtain ⟨b17, hf⟩ := ab_guard hf
          obtain ⟨h18, eh18, hf⟩ := ab_let_x hf
          refine ab_iast (pc2 := 58) hq16 (T15 q16 hq16) (ab_in_vp b17) dX12_byLaw_57 rfl ?_
          refine ab_topH eh18 ?_
          refine ab_aload_n (x := _) (pc2 := 59) dX12_byLaw_58 rfl rfl ?_
          refine ab_iload_n (pc2 := 60) dX12_byLaw_59 rfl rfl ?_
          refine ab_iload_n (pc2 := 61) dX12_byLaw_60 rfl rfl ?_
          obtain ⟨w19, ew19, hf⟩ := ab_bind hf
          refine ab_callV (pc2 := 64) (st := []) rfl ht0 (by decide) (m_X12_lays (d := (d + 5)) ht0 ew19) mf_X12_lays tw_228 tw_227 ts_X12_lays (Or.inl (by decide +kernel)) dX12_byLaw_61 rfl (by omega) (Nat.le_refl _) (Nat.le_refl _) rfl (Nat.le_of_ble_eq_true rfl) (ab_kPv ?_)
          refine ab_aload_n (x := _) (pc2 := 65) dX12_byLaw_64 rfl rfl ?_
          obtain ⟨w20, ew20, hf⟩ := ab_bind hf
          refine ab_callV (pc2 := 68) (st := []) rfl ht0 (by decide) (m_X12_pairOf (d := (d + 0)) ht0 ew20) mf_X12_pairOf tw_230 tw_229 ts_X12_pairOf (Or.inl (by decide +kernel)) dX12_byLaw_65 rfl (by omega) (Nat.le_refl _) (Nat.le_refl _) rfl (Nat.le_of_ble_eq_true rfl) (ab_kPv ?_)
          refine ab_aload_n (x := _) (pc2 := 69) dX12_byLaw_68 rfl rfl ?_
          refine ab_getR (pc2 := 72) rfl ht0 fa_X12_9 dX12_byLaw_69 rfl (fun T21 => ?_)
          refine ab_iconst (pc2 := 73) (v := 3) dX12_byLaw_72 rfl ab_k_iconst_3 ?_
          refine ab_iload (pc2 := 75) dX12_byLaw_73 rfl rfl ?_
          obtain ⟨q22, hq22, hf⟩ := ab_bind hf
          obtain ⟨b23, hf⟩ := ab_guard hf
          obtain ⟨h24, eh24, hf⟩ := ab_let_x hf
          refine ab_iast (pc2 := 76) hq22 (T21 q22 hq22) (ab_in_vp b23) dX12_byLaw_75 rfl ?_
          refine ab_topH eh24 ?_
          refine ab_aload_n (x := _) (pc2 := 77) dX12_byLaw_76 rfl rfl ?_
          refine ab_getI (pc2 := 80) rfl ht0 fa_X12_175 (by decide) dX12_byLaw_77 rfl ?_
          obtain ⟨w25, ew25, hf⟩ := ab_bind hf
          refine ab_callS (pc2 := 83) (st := []) (m_X12_bits (d := (d + 6)) ew25) mf_X12_bits tw_246 tw_247 dX12_byLaw_80 rfl (by omega) (Nat.le_refl _) (Nat.le_refl _) rfl (Nat.le_of_ble_eq_true rfl) (ab_kPi ?_)
          cases Option.some.inj hf
          exact ab_retI dX12_byLaw_83 (Or.inl rfl) (Nat.le_refl _) (Nat.le_refl _) ⟨rfl, rfl⟩
        · refine ab_iload (pc2 := 42) dX12_byLaw_40 rfl rfl ?_
          cases Option.some.inj hf
          exact ab_retI dX12_byLaw_42 (Or.inl rfl) (Nat.le_refl _) (Nat.le_refl _) ⟨rfl, rfl⟩
      · refine ab_iconst (pc2 := 27) (v := (-1)) dX12_byLaw_26 rfl ab_k_iconst_m1 ?_
        cases Option.some.inj hf
        exact ab_retI dX12_byLaw_27 (Or.inl rfl) (Nat.le_refl _) (Nat.le_refl _) ⟨rfl, rfl⟩
set_option maxHeartbeats 4000000 in
set_option maxRecDepth 100000 in
theorem m_X12_byLaw {d : Nat} {t0 : Nat} {i1 : Int32} {i2 : Int32} {i3 : Int32} {h : ab_HP} {r : (Int32 × ab_HP)} (ht0 : (ab_shp t0).1 = 5) (hf : f_X12_byLaw t0 i1 i2 i3 h = some r) : ab_MET mX12_byLaw (d + 7) 0 0 [va_rf (some t0), .int i1, .int i2, .int i3] h (ab_Pi r.1 r.2) := ab_met (by decide +kernel) (by decide +kernel) (Nat.le_of_ble_eq_true rfl) rfl (x_X12_byLaw ht0 hf)
set_option maxHeartbeats 4000000 in
set_option maxRecDepth 100000 in
theorem x_X12_drawn {d : Nat} {t0 : Nat} {i1 : Int32} {h : ab_HP} {r : (Int32 × ab_HP)} (ht0 : (ab_shp t0).1 = 5) (hf : f_X12_drawn t0 i1 h = some r) : ab_T mX12_drawn (d + 0) 0 0 0 0 0 [some (va_rf (some t0)), some (.int i1)] [] h (ab_Pi r.1 r.2) := by
  unfold f_X12_drawn at hf
  refine ab_aload_n (x := _) (pc2 := 1) dX12_drawn_0 rfl rfl ?_
  refine ab_aload_n (x := _) (pc2 := 2) dX12_drawn_1 rfl rfl ?_
  refine ab_getI (pc2 := 5) rfl ht0 fa_X12_288 (by decide) dX12_drawn_2 rfl ?_
  refine ab_ldcw (pc2 := 8) (v := 1103515245) dX12_drawn_5 rfl tw_311 ?_
  refine ab_imul (pc2 := 9) dX12_drawn_8 rfl ?_
  refine ab_sipush (pc2 := 12) (v := 12345) dX12_drawn_9 rfl ab_k_sipush_12345 ?_
  refine ab_iadd (pc2 := 13) dX12_drawn_12 rfl ?_
  obtain ⟨h1, eh1, hf⟩ := ab_let_x hf
  refine ab_putI (pc2 := 16) rfl ht0 fa_X12_288 (Or.inl rfl) (fun z => by cases z) dX12_drawn_13 rfl ?_
  refine ab_topH eh1 ?_
  refine ab_aload_n (x := _) (pc2 := 17) dX12_drawn_16 rfl rfl ?_
  refine ab_getI (pc2 := 20) rfl ht0 fa_X12_288 (by decide) dX12_drawn_17 rfl ?_
  refine ab_ldcw (pc2 := 23) (v := 2147483647) dX12_drawn_20 rfl tw_312 ?_
  refine ab_iand (pc2 := 24) dX12_drawn_23 rfl ?_
  refine ab_ldcw (pc2 := 27) (v := 65536) dX12_drawn_24 rfl tw_313 ?_
  refine ab_idiv (pc2 := 28) dX12_drawn_27 rfl (by decide) ?_
  refine ab_iload_n (pc2 := 29) dX12_drawn_28 rfl rfl ?_
  obtain ⟨hz, hf⟩ := ab_guardN hf
  refine ab_irem (pc2 := 30) dX12_drawn_29 rfl hz ?_
  cases Option.some.inj hf
  exact ab_retI dX12_drawn_30 (Or.inl rfl) (Nat.le_refl _) (Nat.le_refl _) ⟨rfl, rfl⟩
set_option maxHeartbeats 4000000 in
set_option maxRecDepth 100000 in
theorem m_X12_drawn {d : Nat} {t0 : Nat} {i1 : Int32} {h : ab_HP} {r : (Int32 × ab_HP)} (ht0 : (ab_shp t0).1 = 5) (hf : f_X12_drawn t0 i1 h = some r) : ab_MET mX12_drawn (d + 0) 0 0 [va_rf (some t0), .int i1] h (ab_Pi r.1 r.2) := ab_met (by decide +kernel) (by decide +kernel) (Nat.le_of_ble_eq_true rfl) rfl (x_X12_drawn ht0 hf)
set_option maxHeartbeats 4000000 in
set_option maxRecDepth 100000 in
theorem x_X12_seeded_l71 {d : Nat} {k51 : Int32 → Int32 → Int32 → ab_HP → Option (Int32 × ab_HP)} {t0 : Nat} {r : (Int32 × ab_HP)} (ht0 : (ab_shp t0).1 = 5) (hk51 : ∀ (i1 : Int32) (i3 : Int32) (i4 : Int32) (h : ab_HP), k51 i1 i3 i4 h = some r → ab_T mX12_seeded (d + 7) 0 0 0 0 51 [some (va_rf (some t0)), some (.int i1), none, some (.int i3), some (.int i4), none] [] h (ab_Pi r.1 r.2)) : ∀ (n : Nat) (i1 : Int32) (i3 : Int32) (i4 : Int32) (i5 : Int32) (h : ab_HP), f_X12_seeded_l71 k51 t0 n i1 i3 i4 i5 h = some r → ab_T mX12_seeded (d + 7) 0 0 0 0 71 [some (va_rf (some t0)), some (.int i1), none, some (.int i3), some (.int i4), some (.int i5)] [] h (ab_Pi r.1 r.2) := by
  intro n
  induction n with
  | zero =>
    intro i1 i3 i4 i5 h hf
    rw [f_X12_seeded_l71] at hf
    cases hf
  | succ n ih =>
    intro i1 i3 i4 i5 h hf
    rw [f_X12_seeded_l71] at hf
    refine ab_iload (pc2 := 73) dX12_seeded_71 rfl rfl ?_
    refine ab_aload_n (x := _) (pc2 := 74) dX12_seeded_73 rfl rfl ?_
    refine ab_getI (pc2 := 77) rfl ht0 fa_X12_166 (by decide) dX12_seeded_74 rfl ?_
    refine ab_icmp_ge (tgt := 104) (pc2 := 80) dX12_seeded_77 (by decide) rfl hf (fun c18 hf => ?_) (fun c18 hf => ?_)
    · refine ab_aload_n (x := _) (pc2 := 105) dX12_seeded_104 rfl rfl ?_
      refine ab_aload_n (x := _) (pc2 := 106) dX12_seeded_105 rfl rfl ?_
      refine ab_iconst (pc2 := 107) (v := 1) dX12_seeded_106 rfl ab_k_iconst_1 ?_
      refine ab_aload_n (x := _) (pc2 := 108) dX12_seeded_107 rfl rfl ?_
      refine ab_getI (pc2 := 111) rfl ht0 fa_X12_166 (by decide) dX12_seeded_108 rfl ?_
      refine ab_ishl (pc2 := 112) dX12_seeded_111 rfl ?_
      obtain ⟨w19, ew19, hf⟩ := ab_bind hf
      refine ab_callV (pc2 := 115) (st := [_]) rfl ht0 (by decide) (m_X12_drawn (d := (d + 6)) ht0 ew19) mf_X12_drawn tw_316 tw_315 ts_X12_drawn (Or.inl (by decide +kernel)) dX12_seeded_112 rfl (by omega) (Nat.le_refl _) (Nat.le_refl _) rfl (Nat.le_of_ble_eq_true rfl) (ab_kPi ?_)
      obtain ⟨h20, eh20, hf⟩ := ab_let_x hf
      refine ab_putI (pc2 := 118) rfl ht0 fa_X12_169 (Or.inl rfl) (fun z => by cases z) dX12_seeded_115 rfl ?_
      refine ab_topH eh20 ?_
      refine ab_aload_n (x := _) (pc2 := 119) dX12_seeded_118 rfl rfl ?_
      obtain ⟨w21, ew21, hf⟩ := ab_bind hf
      refine ab_callV (pc2 := 122) (st := []) rfl ht0 (by decide) (m_X12_pairOf (d := (d + 0)) ht0 ew21) mf_X12_pairOf tw_230 tw_229 ts_X12_pairOf (Or.inl (by decide +kernel)) dX12_seeded_119 rfl (by omega) (Nat.le_refl _) (Nat.le_refl _) rfl (Nat.le_of_ble_eq_true rfl) (ab_kPv ?_)
      refine ab_iinc (pc2 := 125) (v := _ + 1) (lo2 := [some (va_rf _), some (.int _), none, some (.int _), some (.int _), some (.int _)]) dX12_seeded_122 rfl rfl rfl (by decide) rfl ?_
      refine ab_goto (tgt := 51) dX12_seeded_125 (by decide) ?_
      exact ab_weak (hk51 _ _ _ _ hf) (ab_leS (ab_leS (ab_leN (ab_leS (ab_leS (ab_leN ab_le0))))))
    · refine ab_aload_n (x := _) (pc2 := 81) dX12_seeded_80 rfl rfl ?_
      refine ab_getR (pc2 := 84) rfl ht0 fa_X12_40 dX12_seeded_81 rfl (fun T22 => ?_)
      refine ab_iload (pc2 := 86) dX12_seeded_84 rfl rfl ?_
      refine ab_aload_n (x := _) (pc2 := 87) dX12_seeded_86 rfl rfl ?_
      refine ab_aload_n (x := _) (pc2 := 88) dX12_seeded_87 rfl rfl ?_
      refine ab_getR (pc2 := 91) rfl ht0 fa_X12_9 dX12_seeded_88 rfl (fun T23 => ?_)
      refine ab_bipush (pc2 := 93) (v := 6) dX12_seeded_91 rfl ab_k_bipush_6 ?_
      obtain ⟨q24, hq24, hf⟩ := ab_bind hf
      obtain ⟨b25, hf⟩ := ab_guard hf
      refine ab_iald (pc2 := 94) hq24 (T23 q24 hq24) (ab_in_vp b25) dX12_seeded_93 rfl ?_
      obtain ⟨w26, ew26, hf⟩ := ab_bind hf
      refine ab_callV (pc2 := 97) (st := [_, _]) rfl ht0 (by decide) (m_X12_drawn (d := (d + 6)) ht0 ew26) mf_X12_drawn tw_316 tw_315 ts_X12_drawn (Or.inl (by decide +kernel)) dX12_seeded_94 rfl (by omega) (Nat.le_refl _) (Nat.le_refl _) rfl (Nat.le_of_ble_eq_true rfl) (ab_kPi ?_)
      obtain ⟨q27, hq27, hf⟩ := ab_bind hf
      obtain ⟨b28, hf⟩ := ab_guard hf
      obtain ⟨h29, eh29, hf⟩ := ab_let_x hf
      refine ab_iast (pc2 := 98) hq27 (T22 q27 hq27) (ab_in_vp b28) dX12_seeded_97 rfl ?_
      refine ab_topH eh29 ?_
      refine ab_iinc (pc2 := 101) (v := _ + 1) (lo2 := [some (va_rf _), some (.int _), none, some (.int _), some (.int _), some (.int _)]) dX12_seeded_98 rfl rfl rfl (by decide) rfl ?_
      refine ab_goto (tgt := 71) dX12_seeded_101 (by decide) ?_
      exact ab_weak (ih _ _ _ _ _ hf) (ab_leS (ab_leS (ab_leN (ab_leS (ab_leS (ab_leS ab_le0))))))
set_option maxHeartbeats 4000000 in
set_option maxRecDepth 100000 in
theorem x_X12_seeded_l51 {d : Nat} {t0 : Nat} {r : (Int32 × ab_HP)} (ht0 : (ab_shp t0).1 = 5) : ∀ (n : Nat) (i1 : Int32) (i3 : Int32) (i4 : Int32) (h : ab_HP), f_X12_seeded_l51 t0 n i1 i3 i4 h = some r → ab_T mX12_seeded (d + 7) 0 0 0 0 51 [some (va_rf (some t0)), some (.int i1), none, some (.int i3), some (.int i4), none] [] h (ab_Pi r.1 r.2) := by
  intro n
  induction n with
  | zero =>
    intro i1 i3 i4 h hf
    rw [f_X12_seeded_l51] at hf
    cases hf
  | succ n ih =>
    intro i1 i3 i4 h hf
    rw [f_X12_seeded_l51] at hf
    refine ab_iload (pc2 := 53) dX12_seeded_51 rfl rfl ?_
    refine ab_iload_n (pc2 := 54) dX12_seeded_53 rfl rfl ?_
    refine ab_icmp_ge (tgt := 128) (pc2 := 57) dX12_seeded_54 (by decide) rfl hf (fun c13 hf => ?_) (fun c13 hf => ?_)
    · refine ab_iload_n (pc2 := 129) dX12_seeded_128 rfl rfl ?_
      refine ab_if_ne (tgt := 139) (pc2 := 132) dX12_seeded_129 (by decide) rfl hf (fun c14 hf => ?_) (fun c14 hf => ?_)
      · refine ab_iload_n (pc2 := 140) dX12_seeded_139 rfl rfl ?_
        refine ab_iconst (pc2 := 141) (v := 1) dX12_seeded_140 rfl ab_k_iconst_1 ?_
        refine ab_icmp_ne (tgt := 151) (pc2 := 144) dX12_seeded_141 (by decide) rfl hf (fun c15 hf => ?_) (fun c15 hf => ?_)
        · refine ab_aload_n (x := _) (pc2 := 152) dX12_seeded_151 rfl rfl ?_
          refine ab_getI (pc2 := 155) rfl ht0 fa_X12_184 (by decide) dX12_seeded_152 rfl ?_
          cases Option.some.inj hf
          exact ab_retI dX12_seeded_155 (Or.inl rfl) (Nat.le_refl _) (Nat.le_refl _) ⟨rfl, rfl⟩
        · refine ab_aload_n (x := _) (pc2 := 145) dX12_seeded_144 rfl rfl ?_
          refine ab_getI (pc2 := 148) rfl ht0 fa_X12_178 (by decide) dX12_seeded_145 rfl ?_
          refine ab_goto (tgt := 155) dX12_seeded_148 (by decide) ?_
          cases Option.some.inj hf
          exact ab_retI dX12_seeded_155 (Or.inl rfl) (Nat.le_refl _) (Nat.le_refl _) ⟨rfl, rfl⟩
      · refine ab_aload_n (x := _) (pc2 := 133) dX12_seeded_132 rfl rfl ?_
        refine ab_getI (pc2 := 136) rfl ht0 fa_X12_175 (by decide) dX12_seeded_133 rfl ?_
        refine ab_goto (tgt := 155) dX12_seeded_136 (by decide) ?_
        cases Option.some.inj hf
        exact ab_retI dX12_seeded_155 (Or.inl rfl) (Nat.le_refl _) (Nat.le_refl _) ⟨rfl, rfl⟩
    · refine ab_aload_n (x := _) (pc2 := 58) dX12_seeded_57 rfl rfl ?_
      refine ab_iconst (pc2 := 59) (v := 1) dX12_seeded_58 rfl ab_k_iconst_1 ?_
      refine ab_aload_n (x := _) (pc2 := 60) dX12_seeded_59 rfl rfl ?_
      refine ab_iconst (pc2 := 61) (v := 4) dX12_seeded_60 rfl ab_k_iconst_4 ?_
      obtain ⟨w16, ew16, hf⟩ := ab_bind hf
      refine ab_callV (pc2 := 64) (st := [_, _]) rfl ht0 (by decide) (m_X12_drawn (d := (d + 6)) ht0 ew16) mf_X12_drawn tw_316 tw_315 ts_X12_drawn (Or.inl (by decide +kernel)) dX12_seeded_61 rfl (by omega) (Nat.le_refl _) (Nat.le_refl _) rfl (Nat.le_of_ble_eq_true rfl) (ab_kPi ?_)
      refine ab_iadd (pc2 := 65) dX12_seeded_64 rfl ?_
      obtain ⟨h17, eh17, hf⟩ := ab_let_x hf
      refine ab_putI (pc2 := 68) rfl ht0 fa_X12_166 (Or.inl rfl) (fun z => by cases z) dX12_seeded_65 rfl ?_
      refine ab_topH eh17 ?_
      refine ab_iconst (pc2 := 69) (v := 0) dX12_seeded_68 rfl ab_k_iconst_0 ?_
      refine ab_istore (pc2 := 71) (lo2 := [some (va_rf _), some (.int _), none, some (.int _), some (.int _), some (.int _)]) dX12_seeded_69 rfl (by decide) rfl ?_
      exact ab_weak (x_X12_seeded_l71 ht0 ih _ _ _ _ _ _ hf) (ab_leS (ab_leS (ab_leN (ab_leS (ab_leS (ab_leS ab_le0))))))
set_option maxHeartbeats 4000000 in
set_option maxRecDepth 100000 in
theorem x_X12_seeded {d : Nat} {t0 : Nat} {i1 : Int32} {i2 : Int32} {i3 : Int32} {h : ab_HP} {r : (Int32 × ab_HP)} (ht0 : (ab_shp t0).1 = 5) (hf : f_X12_seeded t0 i1 i2 i3 h = some r) : ab_T mX12_seeded (d + 7) 0 0 0 0 0 [some (va_rf (some t0)), some (.int i1), some (.int i2), some (.int i3), none, none] [] h (ab_Pi r.1 r.2) := by
  unfold f_X12_seeded at hf
  refine ab_iload_n (pc2 := 1) dX12_seeded_0 rfl rfl ?_
  refine ab_i2l (pc2 := 2) dX12_seeded_1 rfl ?_
  refine ab_lconst (pc2 := 3) (v := 1) dX12_seeded_2 rfl rfl ?_
  refine ab_ldc2 (pc2 := 6) (v := 30) dX12_seeded_3 rfl tw_314 ?_
  obtain ⟨w1, ew1, hf⟩ := ab_bind hf
  refine ab_callS (pc2 := 9) (st := []) (m_X12_isIn (d := (d + 6)) ew1) mf_X12_isIn tw_101 tw_102 dX12_seeded_6 rfl (by omega) (Nat.le_refl _) (Nat.le_refl _) rfl (Nat.le_of_ble_eq_true rfl) (ab_kPb fun z2 => ?_)
  refine ab_if_eq (tgt := 24) (pc2 := 12) dX12_seeded_9 (by decide) rfl hf (fun c3 hf => ?_) (fun c3 hf => ?_)
  · refine ab_iconst (pc2 := 25) (v := (-1)) dX12_seeded_24 rfl ab_k_iconst_m1 ?_
    cases Option.some.inj hf
    exact ab_retI dX12_seeded_25 (Or.inl rfl) (Nat.le_refl _) (Nat.le_refl _) ⟨rfl, rfl⟩
  · refine ab_iload_n (pc2 := 13) dX12_seeded_12 rfl rfl ?_
    refine ab_i2l (pc2 := 14) dX12_seeded_13 rfl ?_
    refine ab_lconst (pc2 := 15) (v := 0) dX12_seeded_14 rfl rfl ?_
    refine ab_ldc2 (pc2 := 18) (v := 2) dX12_seeded_15 rfl tw_143 ?_
    obtain ⟨w4, ew4, hf⟩ := ab_bind hf
    refine ab_callS (pc2 := 21) (st := []) (m_X12_isIn (d := (d + 6)) ew4) mf_X12_isIn tw_101 tw_102 dX12_seeded_18 rfl (by omega) (Nat.le_refl _) (Nat.le_refl _) rfl (Nat.le_of_ble_eq_true rfl) (ab_kPb fun z5 => ?_)
    refine ab_if_ne (tgt := 26) (pc2 := 24) dX12_seeded_21 (by decide) rfl hf (fun c6 hf => ?_) (fun c6 hf => ?_)
    · refine ab_aload_n (x := _) (pc2 := 27) dX12_seeded_26 rfl rfl ?_
      refine ab_getR (pc2 := 30) rfl ht0 fa_X12_9 dX12_seeded_27 rfl (fun T7 => ?_)
      refine ab_bipush (pc2 := 32) (v := 6) dX12_seeded_30 rfl ab_k_bipush_6 ?_
      obtain ⟨q8, hq8, hf⟩ := ab_bind hf
      obtain ⟨b9, hf⟩ := ab_guard hf
      refine ab_iald (pc2 := 33) hq8 (T7 q8 hq8) (ab_in_vp b9) dX12_seeded_32 rfl ?_
      refine ab_if_ne (tgt := 39) (pc2 := 36) dX12_seeded_33 (by decide) rfl hf (fun c10 hf => ?_) (fun c10 hf => ?_)
      · refine ab_aload_n (x := _) (pc2 := 40) dX12_seeded_39 rfl rfl ?_
        refine ab_iload_n (pc2 := 41) dX12_seeded_40 rfl rfl ?_
        obtain ⟨h11, eh11, hf⟩ := ab_let_x hf
        refine ab_putI (pc2 := 44) rfl ht0 fa_X12_288 (Or.inl rfl) (fun z => by cases z) dX12_seeded_41 rfl ?_
        refine ab_topH eh11 ?_
        refine ab_aload_n (x := _) (pc2 := 45) dX12_seeded_44 rfl rfl ?_
        obtain ⟨w12, ew12, hf⟩ := ab_bind hf
        refine ab_callV (pc2 := 48) (st := []) rfl ht0 (by decide) (m_X12_begins (d := (d + 6)) ht0 ew12) mf_X12_begins tw_206 tw_205 ts_X12_begins (Or.inl (by decide +kernel)) dX12_seeded_45 rfl (by omega) (Nat.le_refl _) (Nat.le_refl _) rfl (Nat.le_of_ble_eq_true rfl) (ab_kPv ?_)
        refine ab_iconst (pc2 := 49) (v := 0) dX12_seeded_48 rfl ab_k_iconst_0 ?_
        refine ab_istore (pc2 := 51) (lo2 := [some (va_rf _), some (.int _), some (.int _), some (.int _), some (.int _), none]) dX12_seeded_49 rfl (by decide) rfl ?_
        exact ab_weak (x_X12_seeded_l51 ht0 _ _ _ _ _ hf) (ab_leS (ab_leS (ab_leN (ab_leS (ab_leS (ab_leN ab_le0))))))
      · refine ab_bipush (pc2 := 38) (v := (-3)) dX12_seeded_36 rfl ab_k_bipush_m3 ?_
        cases Option.some.inj hf
        exact ab_retI dX12_seeded_38 (Or.inl rfl) (Nat.le_refl _) (Nat.le_refl _) ⟨rfl, rfl⟩
    · refine ab_iconst (pc2 := 25) (v := (-1)) dX12_seeded_24 rfl ab_k_iconst_m1 ?_
      cases Option.some.inj hf
      exact ab_retI dX12_seeded_25 (Or.inl rfl) (Nat.le_refl _) (Nat.le_refl _) ⟨rfl, rfl⟩
set_option maxHeartbeats 4000000 in
set_option maxRecDepth 100000 in
theorem m_X12_seeded {d : Nat} {t0 : Nat} {i1 : Int32} {i2 : Int32} {i3 : Int32} {h : ab_HP} {r : (Int32 × ab_HP)} (ht0 : (ab_shp t0).1 = 5) (hf : f_X12_seeded t0 i1 i2 i3 h = some r) : ab_MET mX12_seeded (d + 7) 0 0 [va_rf (some t0), .int i1, .int i2, .int i3] h (ab_Pi r.1 r.2) := ab_met (by decide +kernel) (by decide +kernel) (Nat.le_of_ble_eq_true rfl) rfl (x_X12_seeded ht0 hf)
set_option maxHeartbeats 4000000 in
set_option maxRecDepth 100000 in
theorem x_X12_leastOf {d : Nat} {t0 : Nat} {i1 : Int32} {h : ab_HP} {r : Int32} (ht0 : (ab_shp t0).1 = 5) (hf : f_X12_leastOf t0 i1 h = some r) : ab_T mX12_leastOf (d + 0) 0 0 0 0 0 [some (va_rf (some t0)), some (.int i1)] [] h (ab_Pi r h) := by
  unfold f_X12_leastOf at hf
  refine ab_aload_n (x := _) (pc2 := 1) dX12_leastOf_0 rfl rfl ?_
  refine ab_getR (pc2 := 4) rfl ht0 fa_X12_22 dX12_leastOf_1 rfl (fun T1 => ?_)
  refine ab_iload_n (pc2 := 5) dX12_leastOf_4 rfl rfl ?_
  obtain ⟨q2, hq2, hf⟩ := ab_bind hf
  obtain ⟨b3, hf⟩ := ab_guard hf
  refine ab_iald (pc2 := 6) hq2 (T1 q2 hq2) (ab_in_vp b3) dX12_leastOf_5 rfl ?_
  refine ab_if_ne (tgt := 14) (pc2 := 9) dX12_leastOf_6 (by decide) rfl hf (fun c4 hf => ?_) (fun c4 hf => ?_)
  · refine ab_aload_n (x := _) (pc2 := 15) dX12_leastOf_14 rfl rfl ?_
    refine ab_getR (pc2 := 18) rfl ht0 fa_X12_22 dX12_leastOf_15 rfl (fun T5 => ?_)
    refine ab_iload_n (pc2 := 19) dX12_leastOf_18 rfl rfl ?_
    obtain ⟨q6, hq6, hf⟩ := ab_bind hf
    obtain ⟨b7, hf⟩ := ab_guard hf
    refine ab_iald (pc2 := 20) hq6 (T5 q6 hq6) (ab_in_vp b7) dX12_leastOf_19 rfl ?_
    refine ab_iconst (pc2 := 21) (v := 1) dX12_leastOf_20 rfl ab_k_iconst_1 ?_
    refine ab_icmp_ne (tgt := 30) (pc2 := 24) dX12_leastOf_21 (by decide) rfl hf (fun c8 hf => ?_) (fun c8 hf => ?_)
    · refine ab_ldcw (pc2 := 33) (v := (-2147483648)) dX12_leastOf_30 rfl tw_322 ?_
      cases Option.some.inj hf
      exact ab_retI dX12_leastOf_33 (Or.inl rfl) (Nat.le_refl _) (Nat.le_refl _) ⟨rfl, rfl⟩
    · refine ab_sipush (pc2 := 27) (v := (-32768)) dX12_leastOf_24 rfl ab_k_sipush_m32768 ?_
      refine ab_goto (tgt := 33) dX12_leastOf_27 (by decide) ?_
      cases Option.some.inj hf
      exact ab_retI dX12_leastOf_33 (Or.inl rfl) (Nat.le_refl _) (Nat.le_refl _) ⟨rfl, rfl⟩
  · refine ab_bipush (pc2 := 11) (v := (-128)) dX12_leastOf_9 rfl ab_k_bipush_m128 ?_
    refine ab_goto (tgt := 33) dX12_leastOf_11 (by decide) ?_
    cases Option.some.inj hf
    exact ab_retI dX12_leastOf_33 (Or.inl rfl) (Nat.le_refl _) (Nat.le_refl _) ⟨rfl, rfl⟩
set_option maxHeartbeats 4000000 in
set_option maxRecDepth 100000 in
theorem m_X12_leastOf {d : Nat} {t0 : Nat} {i1 : Int32} {h : ab_HP} {r : Int32} (ht0 : (ab_shp t0).1 = 5) (hf : f_X12_leastOf t0 i1 h = some r) : ab_MET mX12_leastOf (d + 0) 0 0 [va_rf (some t0), .int i1] h (ab_Pi r h) := ab_met (by decide +kernel) (by decide +kernel) (Nat.le_of_ble_eq_true rfl) rfl (x_X12_leastOf ht0 hf)
set_option maxHeartbeats 4000000 in
set_option maxRecDepth 100000 in
theorem x_X12_judge_l64 {d : Nat} {t0 : Nat} {r : (Int32 × ab_HP)} (ht0 : (ab_shp t0).1 = 5) : ∀ (n : Nat) (i3 : Int32) (i5 : Int32) (h : ab_HP), f_X12_judge_l64 t0 n i3 i5 h = some r → ab_T mX12_judge (d + 7) 0 0 0 0 64 [some (va_rf (some t0)), none, none, some (.int i3), none, some (.int i5), none] [] h (ab_Pi r.1 r.2) := by
  intro n
  induction n with
  | zero =>
    intro i3 i5 h hf
    rw [f_X12_judge_l64] at hf
    cases hf
  | succ n ih =>
    intro i3 i5 h hf
    rw [f_X12_judge_l64] at hf
    refine ab_iload (pc2 := 66) dX12_judge_64 rfl rfl ?_
    refine ab_aload_n (x := _) (pc2 := 67) dX12_judge_66 rfl rfl ?_
    refine ab_getR (pc2 := 70) rfl ht0 fa_X12_25 dX12_judge_67 rfl (fun T16 => ?_)
    refine ab_iload_n (pc2 := 71) dX12_judge_70 rfl rfl ?_
    obtain ⟨q17, hq17, hf⟩ := ab_bind hf
    obtain ⟨b18, hf⟩ := ab_guard hf
    refine ab_iald (pc2 := 72) hq17 (T16 q17 hq17) (ab_in_vp b18) dX12_judge_71 rfl ?_
    refine ab_icmp_ge (tgt := 148) (pc2 := 75) dX12_judge_72 (by decide) rfl hf (fun c19 hf => ?_) (fun c19 hf => ?_)
    · refine ab_bipush (pc2 := 150) (v := (-4)) dX12_judge_148 rfl ab_k_bipush_m4 ?_
      cases Option.some.inj hf
      exact ab_retI dX12_judge_150 (Or.inl rfl) (Nat.le_refl _) (Nat.le_refl _) ⟨rfl, rfl⟩
    · refine ab_aload_n (x := _) (pc2 := 76) dX12_judge_75 rfl rfl ?_
      refine ab_getR (pc2 := 79) rfl ht0 fa_X12_28 dX12_judge_76 rfl (fun T20 => ?_)
      refine ab_bipush (pc2 := 81) (v := 100) dX12_judge_79 rfl ab_k_bipush_100 ?_
      refine ab_iload_n (pc2 := 82) dX12_judge_81 rfl rfl ?_
      refine ab_imul (pc2 := 83) dX12_judge_82 rfl ?_
      refine ab_iload (pc2 := 85) dX12_judge_83 rfl rfl ?_
      refine ab_iadd (pc2 := 86) dX12_judge_85 rfl ?_
      obtain ⟨q21, hq21, hf⟩ := ab_bind hf
      obtain ⟨b22, hf⟩ := ab_guard hf
      refine ab_iald (pc2 := 87) hq21 (T20 q21 hq21) (ab_in_vp b22) dX12_judge_86 rfl ?_
      obtain ⟨v23, ev23, hf⟩ := ab_let_x hf
      refine ab_topI ev23 ?_
      refine ab_istore (pc2 := 89) (lo2 := [some (va_rf _), none, none, some (.int _), none, some (.int _), some (.int _)]) dX12_judge_87 rfl (by decide) rfl ?_
      refine ab_iload (pc2 := 91) dX12_judge_89 rfl rfl ?_
      refine ab_aload_n (x := _) (pc2 := 92) dX12_judge_91 rfl rfl ?_
      refine ab_iload_n (pc2 := 93) dX12_judge_92 rfl rfl ?_
      obtain ⟨w24, ew24, hf⟩ := ab_bind hf
      refine ab_callV (pc2 := 96) (st := [_]) rfl ht0 (by decide) (m_X12_leastOf (d := (d + 6)) ht0 ew24) mf_X12_leastOf tw_324 tw_323 ts_X12_leastOf (Or.inl (by decide +kernel)) dX12_judge_93 rfl (by omega) (Nat.le_refl _) (Nat.le_refl _) rfl (Nat.le_of_ble_eq_true rfl) (ab_kPi ?_)
      refine ab_icmp_ne (tgt := 102) (pc2 := 99) dX12_judge_96 (by decide) rfl hf (fun c25 hf => ?_) (fun c25 hf => ?_)
      · refine ab_iload (pc2 := 104) dX12_judge_102 rfl rfl ?_
        refine ab_aload_n (x := _) (pc2 := 105) dX12_judge_104 rfl rfl ?_
        refine ab_getI (pc2 := 108) rfl ht0 fa_X12_166 (by decide) dX12_judge_105 rfl ?_
        refine ab_icmp_gt (tgt := 139) (pc2 := 111) dX12_judge_108 (by decide) rfl hf (fun c26 hf => ?_) (fun c26 hf => ?_)
        · refine ab_iload (pc2 := 141) dX12_judge_139 rfl rfl ?_
          cases Option.some.inj hf
          exact ab_retI dX12_judge_141 (Or.inl rfl) (Nat.le_refl _) (Nat.le_refl _) ⟨rfl, rfl⟩
        · refine ab_iload (pc2 := 113) dX12_judge_111 rfl rfl ?_
          refine ab_iload (pc2 := 115) dX12_judge_113 rfl rfl ?_
          refine ab_aload_n (x := _) (pc2 := 116) dX12_judge_115 rfl rfl ?_
          refine ab_getI (pc2 := 119) rfl ht0 fa_X12_166 (by decide) dX12_judge_116 rfl ?_
          refine ab_icmp_ge (tgt := 132) (pc2 := 122) dX12_judge_119 (by decide) rfl hf (fun c27 hf => ?_) (fun c27 hf => ?_)
          · refine ab_aload_n (x := _) (pc2 := 133) dX12_judge_132 rfl rfl ?_
            refine ab_getI (pc2 := 136) rfl ht0 fa_X12_175 (by decide) dX12_judge_133 rfl ?_
            refine ab_icmp_eq (tgt := 142) (pc2 := 139) dX12_judge_136 (by decide) rfl hf (fun c28 hf => ?_) (fun c28 hf => ?_)
            · refine ab_iinc (pc2 := 145) (v := _ + 1) (lo2 := [some (va_rf _), none, none, some (.int _), none, some (.int _), some (.int _)]) dX12_judge_142 rfl rfl rfl (by decide) rfl ?_
              refine ab_goto (tgt := 64) dX12_judge_145 (by decide) ?_
              exact ab_weak (ih _ _ _ hf) (ab_leS (ab_leN (ab_leN (ab_leS (ab_leN (ab_leS (ab_leN ab_le0)))))))
            · refine ab_iload (pc2 := 141) dX12_judge_139 rfl rfl ?_
              cases Option.some.inj hf
              exact ab_retI dX12_judge_141 (Or.inl rfl) (Nat.le_refl _) (Nat.le_refl _) ⟨rfl, rfl⟩
          · refine ab_aload_n (x := _) (pc2 := 123) dX12_judge_122 rfl rfl ?_
            refine ab_getR (pc2 := 126) rfl ht0 fa_X12_52 dX12_judge_123 rfl (fun T29 => ?_)
            refine ab_iload (pc2 := 128) dX12_judge_126 rfl rfl ?_
            obtain ⟨q30, hq30, hf⟩ := ab_bind hf
            obtain ⟨b31, hf⟩ := ab_guard hf
            refine ab_iald (pc2 := 129) hq30 (T29 q30 hq30) (ab_in_vp b31) dX12_judge_128 rfl ?_
            refine ab_goto (tgt := 136) dX12_judge_129 (by decide) ?_
            refine ab_icmp_eq (tgt := 142) (pc2 := 139) dX12_judge_136 (by decide) rfl hf (fun c32 hf => ?_) (fun c32 hf => ?_)
            · refine ab_iinc (pc2 := 145) (v := _ + 1) (lo2 := [some (va_rf _), none, none, some (.int _), none, some (.int _), some (.int _)]) dX12_judge_142 rfl rfl rfl (by decide) rfl ?_
              refine ab_goto (tgt := 64) dX12_judge_145 (by decide) ?_
              exact ab_weak (ih _ _ _ hf) (ab_leS (ab_leN (ab_leN (ab_leS (ab_leN (ab_leS (ab_leN ab_le0)))))))
            · refine ab_iload (pc2 := 141) dX12_judge_139 rfl rfl ?_
              cases Option.some.inj hf
              exact ab_retI dX12_judge_141 (Or.inl rfl) (Nat.le_refl _) (Nat.le_refl _) ⟨rfl, rfl⟩
      · refine ab_goto (tgt := 142) dX12_judge_99 (by decide) ?_
        refine ab_iinc (pc2 := 145) (v := _ + 1) (lo2 := [some (va_rf _), none, none, some (.int _), none, some (.int _), some (.int _)]) dX12_judge_142 rfl rfl rfl (by decide) rfl ?_
        refine ab_goto (tgt := 64) dX12_judge_145 (by decide) ?_
        exact ab_weak (ih _ _ _ hf) (ab_leS (ab_leN (ab_leN (ab_leS (ab_leN (ab_leS (ab_leN ab_le0)))))))
set_option maxHeartbeats 4000000 in
set_option maxRecDepth 100000 in
theorem x_X12_judge_b43 {d : Nat} {t0 : Nat} {i1 : Int32} {i2 : Int32} {i3 : Int32} {i4 : Int32} {h : ab_HP} {r : (Int32 × ab_HP)} (ht0 : (ab_shp t0).1 = 5) (hf : f_X12_judge_b43 t0 i1 i2 i3 i4 h = some r) : ab_T mX12_judge (d + 7) 0 0 0 0 43 [some (va_rf (some t0)), some (.int i1), some (.int i2), some (.int i3), some (.int i4), none, none] [] h (ab_Pi r.1 r.2) := by
  unfold f_X12_judge_b43 at hf
  refine ab_iload (pc2 := 45) dX12_judge_43 rfl rfl ?_
  refine ab_if_eq (tgt := 51) (pc2 := 48) dX12_judge_45 (by decide) rfl hf (fun c13 hf => ?_) (fun c13 hf => ?_)
  · refine ab_aload_n (x := _) (pc2 := 52) dX12_judge_51 rfl rfl ?_
    refine ab_iload_n (pc2 := 53) dX12_judge_52 rfl rfl ?_
    refine ab_iload_n (pc2 := 54) dX12_judge_53 rfl rfl ?_
    obtain ⟨w14, ew14, hf⟩ := ab_bind hf
    refine ab_callV (pc2 := 57) (st := []) rfl ht0 (by decide) (m_X12_lays (d := (d + 5)) ht0 ew14) mf_X12_lays tw_228 tw_227 ts_X12_lays (Or.inl (by decide +kernel)) dX12_judge_54 rfl (by omega) (Nat.le_refl _) (Nat.le_refl _) rfl (Nat.le_of_ble_eq_true rfl) (ab_kPv ?_)
    refine ab_aload_n (x := _) (pc2 := 58) dX12_judge_57 rfl rfl ?_
    obtain ⟨w15, ew15, hf⟩ := ab_bind hf
    refine ab_callV (pc2 := 61) (st := []) rfl ht0 (by decide) (m_X12_pairOf (d := (d + 0)) ht0 ew15) mf_X12_pairOf tw_230 tw_229 ts_X12_pairOf (Or.inl (by decide +kernel)) dX12_judge_58 rfl (by omega) (Nat.le_refl _) (Nat.le_refl _) rfl (Nat.le_of_ble_eq_true rfl) (ab_kPv ?_)
    refine ab_iconst (pc2 := 62) (v := 0) dX12_judge_61 rfl ab_k_iconst_0 ?_
    refine ab_istore (pc2 := 64) (lo2 := [some (va_rf _), some (.int _), some (.int _), some (.int _), some (.int _), some (.int _), none]) dX12_judge_62 rfl (by decide) rfl ?_
    exact ab_weak (x_X12_judge_l64 ht0 _ _ _ _ hf) (ab_leS (ab_leN (ab_leN (ab_leS (ab_leN (ab_leS (ab_leN ab_le0)))))))
  · refine ab_iload (pc2 := 50) dX12_judge_48 rfl rfl ?_
    cases Option.some.inj hf
    exact ab_retI dX12_judge_50 (Or.inl rfl) (Nat.le_refl _) (Nat.le_refl _) ⟨rfl, rfl⟩
set_option maxHeartbeats 4000000 in
set_option maxRecDepth 100000 in
theorem x_X12_judge {d : Nat} {t0 : Nat} {i1 : Int32} {i2 : Int32} {i3 : Int32} {h : ab_HP} {r : (Int32 × ab_HP)} (ht0 : (ab_shp t0).1 = 5) (hf : f_X12_judge t0 i1 i2 i3 h = some r) : ab_T mX12_judge (d + 7) 0 0 0 0 0 [some (va_rf (some t0)), some (.int i1), some (.int i2), some (.int i3), none, none, none] [] h (ab_Pi r.1 r.2) := by
  unfold f_X12_judge at hf
  refine ab_iload_n (pc2 := 1) dX12_judge_0 rfl rfl ?_
  obtain ⟨w1, ew1, hf⟩ := ab_bind hf
  refine ab_callS (pc2 := 4) (st := []) (m_X12_isShelf (d := (d + 5)) ew1) mf_X12_isShelf tw_103 tw_104 dX12_judge_1 rfl (by omega) (Nat.le_refl _) (Nat.le_refl _) rfl (Nat.le_of_ble_eq_true rfl) (ab_kPb fun z2 => ?_)
  refine ab_if_eq (tgt := 21) (pc2 := 7) dX12_judge_4 (by decide) rfl hf (fun c3 hf => ?_) (fun c3 hf => ?_)
  · refine ab_iconst (pc2 := 22) (v := (-1)) dX12_judge_21 rfl ab_k_iconst_m1 ?_
    cases Option.some.inj hf
    exact ab_retI dX12_judge_22 (Or.inl rfl) (Nat.le_refl _) (Nat.le_refl _) ⟨rfl, rfl⟩
  · refine ab_iload_n (pc2 := 8) dX12_judge_7 rfl rfl ?_
    obtain ⟨w4, ew4, hf⟩ := ab_bind hf
    refine ab_callS (pc2 := 11) (st := []) (m_X12_areNails (d := (d + 5)) ew4) mf_X12_areNails tw_223 tw_224 dX12_judge_8 rfl (by omega) (Nat.le_refl _) (Nat.le_refl _) rfl (Nat.le_of_ble_eq_true rfl) (ab_kPb fun z5 => ?_)
    refine ab_if_eq (tgt := 21) (pc2 := 14) dX12_judge_11 (by decide) rfl hf (fun c6 hf => ?_) (fun c6 hf => ?_)
    · refine ab_iconst (pc2 := 22) (v := (-1)) dX12_judge_21 rfl ab_k_iconst_m1 ?_
      cases Option.some.inj hf
      exact ab_retI dX12_judge_22 (Or.inl rfl) (Nat.le_refl _) (Nat.le_refl _) ⟨rfl, rfl⟩
    · refine ab_iload_n (pc2 := 15) dX12_judge_14 rfl rfl ?_
      obtain ⟨w7, ew7, hf⟩ := ab_bind hf
      refine ab_callS (pc2 := 18) (st := []) (m_X12_isShelf (d := (d + 5)) ew7) mf_X12_isShelf tw_103 tw_104 dX12_judge_15 rfl (by omega) (Nat.le_refl _) (Nat.le_refl _) rfl (Nat.le_of_ble_eq_true rfl) (ab_kPb fun z8 => ?_)
      refine ab_if_ne (tgt := 23) (pc2 := 21) dX12_judge_18 (by decide) rfl hf (fun c9 hf => ?_) (fun c9 hf => ?_)
      · refine ab_aload_n (x := _) (pc2 := 24) dX12_judge_23 rfl rfl ?_
        refine ab_iload_n (pc2 := 25) dX12_judge_24 rfl rfl ?_
        obtain ⟨w10, ew10, hf⟩ := ab_bind hf
        refine ab_callV (pc2 := 28) (st := []) rfl ht0 (by decide) (m_X12_wrongList (d := (d + 3)) ht0 ew10) mf_X12_wrongList tw_226 tw_225 ts_X12_wrongList (Or.inl (by decide +kernel)) dX12_judge_25 rfl (by omega) (Nat.le_refl _) (Nat.le_refl _) rfl (Nat.le_of_ble_eq_true rfl) (ab_kPi ?_)
        refine ab_istore (pc2 := 30) (lo2 := [some (va_rf _), some (.int _), some (.int _), some (.int _), some (.int _), none, none]) dX12_judge_28 rfl (by decide) rfl ?_
        refine ab_iload (pc2 := 32) dX12_judge_30 rfl rfl ?_
        refine ab_if_ne (tgt := 43) (pc2 := 35) dX12_judge_32 (by decide) rfl hf (fun c11 hf => ?_) (fun c11 hf => ?_)
        · exact ab_weak (x_X12_judge_b43 ht0 hf) (ab_leS (ab_leS (ab_leS (ab_leS (ab_leS (ab_leN (ab_leN ab_le0)))))))
        · refine ab_aload_n (x := _) (pc2 := 36) dX12_judge_35 rfl rfl ?_
          refine ab_iload_n (pc2 := 37) dX12_judge_36 rfl rfl ?_
          refine ab_iconst (pc2 := 38) (v := (-1)) dX12_judge_37 rfl ab_k_iconst_m1 ?_
          obtain ⟨w12, ew12, hf⟩ := ab_bind hf
          refine ab_callV (pc2 := 41) (st := []) rfl ht0 (by decide) (m_X12_wrongRow (d := (d + 4)) ht0 ew12) mf_X12_wrongRow tw_122 tw_121 ts_X12_wrongRow (Or.inl (by decide +kernel)) dX12_judge_38 rfl (by omega) (Nat.le_refl _) (Nat.le_refl _) rfl (Nat.le_of_ble_eq_true rfl) (ab_kPi ?_)
          refine ab_istore (pc2 := 43) (lo2 := [some (va_rf _), some (.int _), some (.int _), some (.int _), some (.int _), none, none]) dX12_judge_41 rfl (by decide) rfl ?_
          exact ab_weak (x_X12_judge_b43 ht0 hf) (ab_leS (ab_leS (ab_leS (ab_leS (ab_leS (ab_leN (ab_leN ab_le0)))))))
      · refine ab_iconst (pc2 := 22) (v := (-1)) dX12_judge_21 rfl ab_k_iconst_m1 ?_
        cases Option.some.inj hf
        exact ab_retI dX12_judge_22 (Or.inl rfl) (Nat.le_refl _) (Nat.le_refl _) ⟨rfl, rfl⟩
set_option maxHeartbeats 4000000 in
set_option maxRecDepth 100000 in
theorem m_X12_judge {d : Nat} {t0 : Nat} {i1 : Int32} {i2 : Int32} {i3 : Int32} {h : ab_HP} {r : (Int32 × ab_HP)} (ht0 : (ab_shp t0).1 = 5) (hf : f_X12_judge t0 i1 i2 i3 h = some r) : ab_MET mX12_judge (d + 7) 0 0 [va_rf (some t0), .int i1, .int i2, .int i3] h (ab_Pi r.1 r.2) := ab_met (by decide +kernel) (by decide +kernel) (Nat.le_of_ble_eq_true rfl) rfl (x_X12_judge ht0 hf)
set_option maxHeartbeats 4000000 in
set_option maxRecDepth 100000 in
theorem x_X12_image_l2 {d : Nat} {t0 : Nat} {r : (Int32 × ab_HP)} (ht0 : (ab_shp t0).1 = 5) : ∀ (n : Nat) (i1 : Int32) (h : ab_HP), f_X12_image_l2 t0 n i1 h = some r → ab_T mX12_image (d + 0) 0 0 0 0 2 [some (va_rf (some t0)), some (.int i1)] [] h (ab_Pi r.1 r.2) := by
  intro n
  induction n with
  | zero =>
    intro i1 h hf
    rw [f_X12_image_l2] at hf
    cases hf
  | succ n ih =>
    intro i1 h hf
    rw [f_X12_image_l2] at hf
    refine ab_iload_n (pc2 := 3) dX12_image_2 rfl rfl ?_
    refine ab_bipush (pc2 := 5) (v := 47) dX12_image_3 rfl ab_k_bipush_47 ?_
    refine ab_icmp_ge (tgt := 26) (pc2 := 8) dX12_image_5 (by decide) rfl hf (fun c1 hf => ?_) (fun c1 hf => ?_)
    · refine ab_aload_n (x := _) (pc2 := 27) dX12_image_26 rfl rfl ?_
      refine ab_iconst (pc2 := 28) (v := 1) dX12_image_27 rfl ab_k_iconst_1 ?_
      obtain ⟨h2, eh2, hf⟩ := ab_let_x hf
      refine ab_putI (pc2 := 31) rfl ht0 fa_X12_303 (Or.inr ⟨rfl, (Or.inr rfl)⟩) (fun z => by cases z) dX12_image_28 rfl ?_
      refine ab_topH eh2 ?_
      refine ab_aload_n (x := _) (pc2 := 32) dX12_image_31 rfl rfl ?_
      refine ab_getR (pc2 := 35) rfl ht0 fa_X12_9 dX12_image_32 rfl (fun T3 => ?_)
      refine ab_iconst (pc2 := 36) (v := 2) dX12_image_35 rfl ab_k_iconst_2 ?_
      obtain ⟨q4, hq4, hf⟩ := ab_bind hf
      obtain ⟨b5, hf⟩ := ab_guard hf
      refine ab_iald (pc2 := 37) hq4 (T3 q4 hq4) (ab_in_vp b5) dX12_image_36 rfl ?_
      cases Option.some.inj hf
      exact ab_retI dX12_image_37 (Or.inl rfl) (Nat.le_refl _) (Nat.le_refl _) ⟨rfl, rfl⟩
    · refine ab_aload_n (x := _) (pc2 := 9) dX12_image_8 rfl rfl ?_
      refine ab_getR (pc2 := 12) rfl ht0 fa_X12_13 dX12_image_9 rfl (fun T6 => ?_)
      refine ab_iload_n (pc2 := 13) dX12_image_12 rfl rfl ?_
      refine ab_aload_n (x := _) (pc2 := 14) dX12_image_13 rfl rfl ?_
      refine ab_getR (pc2 := 17) rfl ht0 fa_X12_9 dX12_image_14 rfl (fun T7 => ?_)
      refine ab_iload_n (pc2 := 18) dX12_image_17 rfl rfl ?_
      obtain ⟨q8, hq8, hf⟩ := ab_bind hf
      obtain ⟨b9, hf⟩ := ab_guard hf
      refine ab_iald (pc2 := 19) hq8 (T7 q8 hq8) (ab_in_vp b9) dX12_image_18 rfl ?_
      obtain ⟨q10, hq10, hf⟩ := ab_bind hf
      obtain ⟨b11, hf⟩ := ab_guard hf
      obtain ⟨h12, eh12, hf⟩ := ab_let_x hf
      refine ab_iast (pc2 := 20) hq10 (T6 q10 hq10) (ab_in_vp b11) dX12_image_19 rfl ?_
      refine ab_topH eh12 ?_
      refine ab_iinc (pc2 := 23) (v := _ + 1) (lo2 := [some (va_rf _), some (.int _)]) dX12_image_20 rfl rfl rfl (by decide) rfl ?_
      refine ab_goto (tgt := 2) dX12_image_23 (by decide) ?_
      exact ab_weak (ih _ _ hf) (ab_leS (ab_leS ab_le0))
set_option maxHeartbeats 4000000 in
set_option maxRecDepth 100000 in
theorem x_X12_image {d : Nat} {t0 : Nat} {h : ab_HP} {r : (Int32 × ab_HP)} (ht0 : (ab_shp t0).1 = 5) (hf : f_X12_image t0 h = some r) : ab_T mX12_image (d + 0) 0 0 0 0 0 [some (va_rf (some t0)), none] [] h (ab_Pi r.1 r.2) := by
  unfold f_X12_image at hf
  refine ab_iconst (pc2 := 1) (v := 0) dX12_image_0 rfl ab_k_iconst_0 ?_
  refine ab_istore_n (pc2 := 2) (lo2 := [some (va_rf _), some (.int _)]) dX12_image_1 rfl (by decide) rfl ?_
  exact ab_weak (x_X12_image_l2 ht0 _ _ _ hf) (ab_leS (ab_leS ab_le0))
set_option maxHeartbeats 4000000 in
set_option maxRecDepth 100000 in
theorem m_X12_image {d : Nat} {t0 : Nat} {h : ab_HP} {r : (Int32 × ab_HP)} (ht0 : (ab_shp t0).1 = 5) (hf : f_X12_image t0 h = some r) : ab_MET mX12_image (d + 0) 0 0 [va_rf (some t0)] h (ab_Pi r.1 r.2) := ab_met (by decide +kernel) (by decide +kernel) (Nat.le_of_ble_eq_true rfl) rfl (x_X12_image ht0 hf)
set_option maxHeartbeats 4000000 in
set_option maxRecDepth 100000 in
theorem x_X12_restore_l12 {d : Nat} {t0 : Nat} {r : (Int32 × ab_HP)} (ht0 : (ab_shp t0).1 = 5) : ∀ (n : Nat) (i1 : Int32) (h : ab_HP), f_X12_restore_l12 t0 n i1 h = some r → ab_T mX12_restore (d + 0) 0 0 0 0 12 [some (va_rf (some t0)), some (.int i1)] [] h (ab_Pi r.1 r.2) := by
  intro n
  induction n with
  | zero =>
    intro i1 h hf
    rw [f_X12_restore_l12] at hf
    cases hf
  | succ n ih =>
    intro i1 h hf
    rw [f_X12_restore_l12] at hf
    refine ab_iload_n (pc2 := 13) dX12_restore_12 rfl rfl ?_
    refine ab_bipush (pc2 := 15) (v := 47) dX12_restore_13 rfl ab_k_bipush_47 ?_
    refine ab_icmp_ge (tgt := 36) (pc2 := 18) dX12_restore_15 (by decide) rfl hf (fun c2 hf => ?_) (fun c2 hf => ?_)
    · refine ab_aload_n (x := _) (pc2 := 37) dX12_restore_36 rfl rfl ?_
      refine ab_getR (pc2 := 40) rfl ht0 fa_X12_9 dX12_restore_37 rfl (fun T3 => ?_)
      refine ab_iconst (pc2 := 41) (v := 2) dX12_restore_40 rfl ab_k_iconst_2 ?_
      obtain ⟨q4, hq4, hf⟩ := ab_bind hf
      obtain ⟨b5, hf⟩ := ab_guard hf
      refine ab_iald (pc2 := 42) hq4 (T3 q4 hq4) (ab_in_vp b5) dX12_restore_41 rfl ?_
      cases Option.some.inj hf
      exact ab_retI dX12_restore_42 (Or.inl rfl) (Nat.le_refl _) (Nat.le_refl _) ⟨rfl, rfl⟩
    · refine ab_aload_n (x := _) (pc2 := 19) dX12_restore_18 rfl rfl ?_
      refine ab_getR (pc2 := 22) rfl ht0 fa_X12_9 dX12_restore_19 rfl (fun T6 => ?_)
      refine ab_iload_n (pc2 := 23) dX12_restore_22 rfl rfl ?_
      refine ab_aload_n (x := _) (pc2 := 24) dX12_restore_23 rfl rfl ?_
      refine ab_getR (pc2 := 27) rfl ht0 fa_X12_13 dX12_restore_24 rfl (fun T7 => ?_)
      refine ab_iload_n (pc2 := 28) dX12_restore_27 rfl rfl ?_
      obtain ⟨q8, hq8, hf⟩ := ab_bind hf
      obtain ⟨b9, hf⟩ := ab_guard hf
      refine ab_iald (pc2 := 29) hq8 (T7 q8 hq8) (ab_in_vp b9) dX12_restore_28 rfl ?_
      obtain ⟨q10, hq10, hf⟩ := ab_bind hf
      obtain ⟨b11, hf⟩ := ab_guard hf
      obtain ⟨h12, eh12, hf⟩ := ab_let_x hf
      refine ab_iast (pc2 := 30) hq10 (T6 q10 hq10) (ab_in_vp b11) dX12_restore_29 rfl ?_
      refine ab_topH eh12 ?_
      refine ab_iinc (pc2 := 33) (v := _ + 1) (lo2 := [some (va_rf _), some (.int _)]) dX12_restore_30 rfl rfl rfl (by decide) rfl ?_
      refine ab_goto (tgt := 12) dX12_restore_33 (by decide) ?_
      exact ab_weak (ih _ _ hf) (ab_leS (ab_leS ab_le0))
set_option maxHeartbeats 4000000 in
set_option maxRecDepth 100000 in
theorem x_X12_restore {d : Nat} {t0 : Nat} {h : ab_HP} {r : (Int32 × ab_HP)} (ht0 : (ab_shp t0).1 = 5) (hf : f_X12_restore t0 h = some r) : ab_T mX12_restore (d + 0) 0 0 0 0 0 [some (va_rf (some t0)), none] [] h (ab_Pi r.1 r.2) := by
  unfold f_X12_restore at hf
  refine ab_aload_n (x := _) (pc2 := 1) dX12_restore_0 rfl rfl ?_
  refine ab_getI (pc2 := 4) rfl ht0 fa_X12_303 (by decide) dX12_restore_1 rfl ?_
  refine ab_if_ne (tgt := 10) (pc2 := 7) dX12_restore_4 (by decide) rfl hf (fun c1 hf => ?_) (fun c1 hf => ?_)
  · refine ab_iconst (pc2 := 11) (v := 0) dX12_restore_10 rfl ab_k_iconst_0 ?_
    refine ab_istore_n (pc2 := 12) (lo2 := [some (va_rf _), some (.int _)]) dX12_restore_11 rfl (by decide) rfl ?_
    exact ab_weak (x_X12_restore_l12 ht0 _ _ _ hf) (ab_leS (ab_leS ab_le0))
  · refine ab_bipush (pc2 := 9) (v := (-3)) dX12_restore_7 rfl ab_k_bipush_m3 ?_
    cases Option.some.inj hf
    exact ab_retI dX12_restore_9 (Or.inl rfl) (Nat.le_refl _) (Nat.le_refl _) ⟨rfl, rfl⟩
set_option maxHeartbeats 4000000 in
set_option maxRecDepth 100000 in
theorem m_X12_restore {d : Nat} {t0 : Nat} {h : ab_HP} {r : (Int32 × ab_HP)} (ht0 : (ab_shp t0).1 = 5) (hf : f_X12_restore t0 h = some r) : ab_MET mX12_restore (d + 0) 0 0 [va_rf (some t0)] h (ab_Pi r.1 r.2) := ab_met (by decide +kernel) (by decide +kernel) (Nat.le_of_ble_eq_true rfl) rfl (x_X12_restore ht0 hf)
