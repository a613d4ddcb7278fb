set_option maxHeartbeats 4000000 in
set_option maxRecDepth 100000 in
theorem x_X11_bestMove_l21 {d : Nat} {t0 : Nat} {r : (Int32 × ab_HP)} (ht0 : (ab_shp t0).1 = 0) : ∀ (n : Nat) (i1 : Int32) (i2 : Option Nat) (i3 : Int32) (i4 : Int32) (i5 : Int32) (h : ab_HP), (∀ z, i2 = some z → (ab_shp z).1 = 3) → f_X11_bestMove_l21 t0 n i1 i2 i3 i4 i5 h = some r → ab_T mX11_bestMove (d + 6) 0 0 0 0 21 [some (va_rf (some t0)), some (.int i1), some (va_rf i2), some (.int i3), some (.int i4), some (.int i5), none, none] [] h (ab_Pi r.1 r.2) := by
  intro n
  induction n with
  | zero =>
    intro i1 i2 i3 i4 i5 h T_i2 hf
    rw [f_X11_bestMove_l21] at hf
    cases hf
  | succ n ih =>
    intro i1 i2 i3 i4 i5 h T_i2 hf
    rw [f_X11_bestMove_l21] at hf
    refine ab_iload (pc2 := 23) dX11_bestMove_21 rfl rfl ?_
    refine ab_aload_n (x := _) (pc2 := 24) dX11_bestMove_23 rfl rfl ?_
    refine ab_getI (pc2 := 27) rfl ht0 fa_X11_333 (by decide) dX11_bestMove_24 rfl ?_
    refine ab_icmp_ge (tgt := 131) (pc2 := 30) dX11_bestMove_27 (by decide) rfl hf (fun c4 hf => ?_) (fun c4 hf => ?_)
    · refine ab_iload_n (pc2 := 132) dX11_bestMove_131 rfl rfl ?_
      cases Option.some.inj hf
      exact ab_retI dX11_bestMove_132 (Or.inl rfl) (Nat.le_refl _) (Nat.le_refl _) ⟨rfl, rfl⟩
    · refine ab_aload_n (x := _) (pc2 := 31) dX11_bestMove_30 rfl rfl ?_
      refine ab_getR (pc2 := 34) rfl ht0 fa_X11_39 dX11_bestMove_31 rfl (fun T5 => ?_)
      refine ab_iload (pc2 := 36) dX11_bestMove_34 rfl rfl ?_
      obtain ⟨w6, ew6, hf⟩ := ab_bind hf
      refine ab_callS (pc2 := 39) (st := []) (m_X11_at (d := (d + 5)) T5 ew6) mf_X11_at tw_251 tw_23 dX11_bestMove_36 rfl (by omega) (Nat.le_refl _) (Nat.le_refl _) rfl (Nat.le_of_ble_eq_true rfl) (ab_kPi ?_)
      refine ab_istore (pc2 := 41) (lo2 := [some (va_rf _), some (.int _), some (va_rf _), some (.int _), some (.int _), some (.int _), some (.int _), none]) dX11_bestMove_39 rfl (by decide) rfl ?_
      refine ab_aload_n (x := _) (pc2 := 42) dX11_bestMove_41 rfl rfl ?_
      refine ab_iload (pc2 := 44) dX11_bestMove_42 rfl rfl ?_
      refine ab_aload_n (x := _) (pc2 := 45) dX11_bestMove_44 rfl rfl ?_
      refine ab_getR (pc2 := 48) rfl ht0 fa_X11_10 dX11_bestMove_45 rfl (fun T7 => ?_)
      obtain ⟨q8, hq8, hf⟩ := ab_bind hf
      refine ab_getI (pc2 := 51) hq8 (T7 q8 hq8) fa_X11_94 (by decide) dX11_bestMove_48 rfl ?_
      refine ab_aload_n (x := _) (pc2 := 52) dX11_bestMove_51 rfl rfl ?_
      refine ab_getR (pc2 := 55) rfl ht0 fa_X11_10 dX11_bestMove_52 rfl (fun T9 => ?_)
      obtain ⟨q10, hq10, hf⟩ := ab_bind hf
      refine ab_getI (pc2 := 58) hq10 (T9 q10 hq10) fa_X11_97 (by decide) dX11_bestMove_55 rfl ?_
      obtain ⟨w11, ew11, hf⟩ := ab_bind hf
      refine ab_callV (pc2 := 61) (st := []) rfl ht0 (by decide) (m_X11_playMove (d := (d + 1)) ht0 ew11) mf_X11_playMove tw_269 tw_268 ts_X11_playMove (Or.inl (by decide +kernel)) dX11_bestMove_58 rfl (by omega) (Nat.le_refl _) (Nat.le_refl _) rfl (Nat.le_of_ble_eq_true rfl) (ab_kPv ?_)
      refine ab_aload_n (x := _) (pc2 := 62) dX11_bestMove_61 rfl rfl ?_
      refine ab_getR (pc2 := 65) rfl ht0 fa_X11_42 dX11_bestMove_62 rfl (fun T12 => ?_)
      refine ab_iload (pc2 := 67) dX11_bestMove_65 rfl rfl ?_
      refine ab_sipush (pc2 := 70) (v := 10000) dX11_bestMove_67 rfl ab_k_sipush_10000 ?_
      refine ab_aload_n (x := _) (pc2 := 71) dX11_bestMove_70 rfl rfl ?_
      refine ab_getR (pc2 := 74) rfl ht0 fa_X11_25 dX11_bestMove_71 rfl (fun T13 => ?_)
      obtain ⟨q14, hq14, hf⟩ := ab_bind hf
      refine ab_getI (pc2 := 77) hq14 (T13 q14 hq14) fa_X11_155 (by decide) dX11_bestMove_74 rfl ?_
      refine ab_imul (pc2 := 78) dX11_bestMove_77 rfl ?_
      refine ab_aload_n (x := _) (pc2 := 79) dX11_bestMove_78 rfl rfl ?_
      refine ab_getR (pc2 := 82) rfl ht0 fa_X11_25 dX11_bestMove_79 rfl (fun T15 => ?_)
      obtain ⟨q16, hq16, hf⟩ := ab_bind hf
      refine ab_getI (pc2 := 85) hq16 (T15 q16 hq16) fa_X11_162 (by decide) dX11_bestMove_82 rfl ?_
      refine ab_iadd (pc2 := 86) dX11_bestMove_85 rfl ?_
      obtain ⟨w17, ew17, hf⟩ := ab_bind hf
      refine ab_callS (pc2 := 89) (st := []) (m_X11_store (d := (d + 5)) T12 ew17) mf_X11_store tw_252 tw_169 dX11_bestMove_86 rfl (by omega) (Nat.le_refl _) (Nat.le_refl _) rfl (Nat.le_of_ble_eq_true rfl) (ab_kPv ?_)
      refine ab_aload_n (x := _) (pc2 := 90) dX11_bestMove_89 rfl rfl ?_
      refine ab_iload (pc2 := 92) dX11_bestMove_90 rfl rfl ?_
      obtain ⟨w18, ew18, hf⟩ := ab_bind hf
      refine ab_callV (pc2 := 95) (st := []) rfl ht0 (by decide) (m_X11_endedSoBefore (d := (d + 4)) ht0 ew18) mf_X11_endedSoBefore tw_276 tw_275 ts_X11_endedSoBefore (Or.inl (by decide +kernel)) dX11_bestMove_92 rfl (by omega) (Nat.le_refl _) (Nat.le_refl _) rfl (Nat.le_of_ble_eq_true rfl) (ab_kPb fun z19 => ?_)
      refine ab_if_eq (tgt := 101) (pc2 := 98) dX11_bestMove_95 (by decide) rfl hf (fun c20 hf => ?_) (fun c20 hf => ?_)
      · refine ab_aload_n (x := _) (pc2 := 102) dX11_bestMove_101 rfl rfl ?_
        refine ab_iload (pc2 := 104) dX11_bestMove_102 rfl rfl ?_
        refine ab_iload_n (pc2 := 105) dX11_bestMove_104 rfl rfl ?_
        refine ab_aload_n (x := _) (pc2 := 106) dX11_bestMove_105 rfl rfl ?_
        obtain ⟨w21, ew21, hf⟩ := ab_bind hf
        refine ab_callV (pc2 := 109) (st := []) rfl ht0 (by decide) (m_X11_worthOfMove (d := (d + 0)) ht0 T_i2 ew21) mf_X11_worthOfMove tw_274 tw_273 ts_X11_worthOfMove (Or.inl (by decide +kernel)) dX11_bestMove_106 rfl (by omega) (Nat.le_refl _) (Nat.le_refl _) rfl (Nat.le_of_ble_eq_true rfl) (ab_kPi ?_)
        refine ab_istore (pc2 := 111) (lo2 := [some (va_rf _), some (.int _), some (va_rf _), some (.int _), some (.int _), some (.int _), some (.int _), some (.int _)]) dX11_bestMove_109 rfl (by decide) rfl ?_
        refine ab_iload (pc2 := 113) dX11_bestMove_111 rfl rfl ?_
        refine ab_iload (pc2 := 115) dX11_bestMove_113 rfl rfl ?_
        refine ab_icmp_le (tgt := 125) (pc2 := 118) dX11_bestMove_115 (by decide) rfl hf (fun c22 hf => ?_) (fun c22 hf => ?_)
        · refine ab_iinc (pc2 := 128) (v := _ + 1) (lo2 := [some (va_rf _), some (.int _), some (va_rf _), some (.int _), some (.int _), some (.int _), some (.int _), some (.int _)]) dX11_bestMove_125 rfl rfl rfl (by decide) rfl ?_
          refine ab_goto (tgt := 21) dX11_bestMove_128 (by decide) ?_
          exact ab_weak (ih _ _ _ _ _ _ T_i2 hf) (ab_leS (ab_leS (ab_leS (ab_leS (ab_leS (ab_leS (ab_leN (ab_leN ab_le0))))))))
        · refine ab_iload (pc2 := 120) dX11_bestMove_118 rfl rfl ?_
          refine ab_istore_n (pc2 := 121) (lo2 := [some (va_rf _), some (.int _), some (va_rf _), some (.int _), some (.int _), some (.int _), some (.int _), some (.int _)]) dX11_bestMove_120 rfl (by decide) (ab_st1_rf (j := 2) rfl rfl) ?_
          refine ab_iload (pc2 := 123) dX11_bestMove_121 rfl rfl ?_
          refine ab_istore (pc2 := 125) (lo2 := [some (va_rf _), some (.int _), some (va_rf _), some (.int _), some (.int _), some (.int _), some (.int _), some (.int _)]) dX11_bestMove_123 rfl (by decide) rfl ?_
          refine ab_iinc (pc2 := 128) (v := _ + 1) (lo2 := [some (va_rf _), some (.int _), some (va_rf _), some (.int _), some (.int _), some (.int _), some (.int _), some (.int _)]) dX11_bestMove_125 rfl rfl rfl (by decide) rfl ?_
          refine ab_goto (tgt := 21) dX11_bestMove_128 (by decide) ?_
          exact ab_weak (ih _ _ _ _ _ _ T_i2 hf) (ab_leS (ab_leS (ab_leS (ab_leS (ab_leS (ab_leS (ab_leN (ab_leN ab_le0))))))))
      · refine ab_goto (tgt := 125) dX11_bestMove_98 (by decide) ?_
        refine ab_iinc (pc2 := 128) (v := _ + 1) (lo2 := [some (va_rf _), some (.int _), some (va_rf _), some (.int _), some (.int _), some (.int _), some (.int _), none]) dX11_bestMove_125 rfl rfl rfl (by decide) rfl ?_
        refine ab_goto (tgt := 21) dX11_bestMove_128 (by decide) ?_
        exact ab_weak (ih _ _ _ _ _ _ T_i2 hf) (ab_leS (ab_leS (ab_leS (ab_leS (ab_leS (ab_leS (ab_leN (ab_leN ab_le0))))))))
set_option maxHeartbeats 4000000 in
set_option maxRecDepth 100000 in
theorem x_X11_bestMove {d : Nat} {t0 : Nat} {i1 : Int32} {i2 : Option Nat} {h : ab_HP} {r : (Int32 × ab_HP)} (ht0 : (ab_shp t0).1 = 0) (T_i2 : ∀ z, i2 = some z → (ab_shp z).1 = 3) (hf : f_X11_bestMove t0 i1 i2 h = some r) : ab_T mX11_bestMove (d + 6) 0 0 0 0 0 [some (va_rf (some t0)), some (.int i1), some (va_rf i2), none, none, none, none, none] [] h (ab_Pi r.1 r.2) := by
  unfold f_X11_bestMove at hf
  refine ab_aload_n (x := _) (pc2 := 1) dX11_bestMove_0 rfl rfl ?_
  refine ab_getR (pc2 := 4) rfl ht0 fa_X11_39 dX11_bestMove_1 rfl (fun T1 => ?_)
  refine ab_iconst (pc2 := 5) (v := 0) dX11_bestMove_4 rfl ab_k_iconst_0 ?_
  obtain ⟨w2, ew2, hf⟩ := ab_bind hf
  refine ab_callS (pc2 := 8) (st := []) (m_X11_at (d := (d + 5)) T1 ew2) mf_X11_at tw_251 tw_23 dX11_bestMove_5 rfl (by omega) (Nat.le_refl _) (Nat.le_refl _) rfl (Nat.le_of_ble_eq_true rfl) (ab_kPi ?_)
  refine ab_istore_n (pc2 := 9) (lo2 := [some (va_rf _), some (.int _), some (va_rf _), some (.int _), none, none, none, none]) dX11_bestMove_8 rfl (by decide) (ab_st1_rf (j := 2) rfl rfl) ?_
  refine ab_aload_n (x := _) (pc2 := 10) dX11_bestMove_9 rfl rfl ?_
  refine ab_iload_n (pc2 := 11) dX11_bestMove_10 rfl rfl ?_
  refine ab_iload_n (pc2 := 12) dX11_bestMove_11 rfl rfl ?_
  refine ab_aload_n (x := _) (pc2 := 13) dX11_bestMove_12 rfl rfl ?_
  obtain ⟨w3, ew3, hf⟩ := ab_bind hf
  refine ab_callV (pc2 := 16) (st := []) rfl ht0 (by decide) (m_X11_worthOfMove (d := (d + 0)) ht0 T_i2 ew3) mf_X11_worthOfMove tw_274 tw_273 ts_X11_worthOfMove (Or.inl (by decide +kernel)) dX11_bestMove_13 rfl (by omega) (Nat.le_refl _) (Nat.le_refl _) rfl (Nat.le_of_ble_eq_true rfl) (ab_kPi ?_)
  refine ab_istore (pc2 := 18) (lo2 := [some (va_rf _), some (.int _), some (va_rf _), some (.int _), some (.int _), none, none, none]) dX11_bestMove_16 rfl (by decide) rfl ?_
  refine ab_iconst (pc2 := 19) (v := 0) dX11_bestMove_18 rfl ab_k_iconst_0 ?_
  refine ab_istore (pc2 := 21) (lo2 := [some (va_rf _), some (.int _), some (va_rf _), some (.int _), some (.int _), some (.int _), none, none]) dX11_bestMove_19 rfl (by decide) rfl ?_
  exact ab_weak (x_X11_bestMove_l21 ht0 _ _ _ _ _ _ _ T_i2 hf) (ab_leS (ab_leS (ab_leS (ab_leS (ab_leS (ab_leS (ab_leN (ab_leN ab_le0))))))))
set_option maxHeartbeats 4000000 in
set_option maxRecDepth 100000 in
theorem m_X11_bestMove {d : Nat} {t0 : Nat} {i1 : Int32} {i2 : Option Nat} {h : ab_HP} {r : (Int32 × ab_HP)} (ht0 : (ab_shp t0).1 = 0) (T_i2 : ∀ z, i2 = some z → (ab_shp z).1 = 3) (hf : f_X11_bestMove t0 i1 i2 h = some r) : ab_MET mX11_bestMove (d + 6) 0 0 [va_rf (some t0), .int i1, va_rf i2] h (ab_Pi r.1 r.2) := ab_met (by decide +kernel) (by decide +kernel) (by simp [ab_lo, ab_rf1, ab_cI, ab_cJ]) (by simp [ab_lo0, ab_lo, ab_rf1, ab_cI, ab_cJ, List.replicate]) (x_X11_bestMove ht0 T_i2 hf)
set_option maxHeartbeats 4000000 in
set_option maxRecDepth 100000 in
theorem x_X11_plan_b58 {d : Nat} {t0 : Nat} {i1 : Int32} {i3 : Int32} {i4 : Option Nat} {i5 : Int32} {h : ab_HP} {r : (Int32 × ab_HP)} (ht0 : (ab_shp t0).1 = 0) (T_i4 : ∀ z, i4 = some z → (ab_shp z).1 = 3) (hf : f_X11_plan_b58 t0 i1 i3 i4 i5 h = some r) : ab_T mX11_plan (d + 7) 0 0 0 0 58 [some (va_rf (some t0)), some (.int i1), none, some (.int i3), some (va_rf i4), some (.int i5), none] [] h (ab_Pi r.1 r.2) := by
  unfold f_X11_plan_b58 at hf
  refine ab_iload (pc2 := 60) dX11_plan_58 rfl rfl ?_
  refine ab_if_eq (tgt := 69) (pc2 := 63) dX11_plan_60 (by decide) rfl hf (fun c13 hf => ?_) (fun c13 hf => ?_)
  · refine ab_aload_n (x := _) (pc2 := 70) dX11_plan_69 rfl rfl ?_
    obtain ⟨w14, ew14, hf⟩ := ab_bind hf
    refine ab_callV (pc2 := 73) (st := []) rfl ht0 (by decide) (m_X11_listMoves (d := (d + 4)) ht0 ew14) mf_X11_listMoves tw_283 tw_282 ts_X11_listMoves (Or.inl (by decide +kernel)) dX11_plan_70 rfl (by omega) (Nat.le_refl _) (Nat.le_refl _) rfl (Nat.le_of_ble_eq_true rfl) (ab_kPv ?_)
    refine ab_aload_n (x := _) (pc2 := 74) dX11_plan_73 rfl rfl ?_
    refine ab_iload_n (pc2 := 75) dX11_plan_74 rfl rfl ?_
    refine ab_aload (x := _) (pc2 := 77) dX11_plan_75 rfl rfl ?_
    obtain ⟨w15, ew15, hf⟩ := ab_bind hf
    refine ab_callV (pc2 := 80) (st := []) rfl ht0 (by decide) (m_X11_bestMove (d := (d + 0)) ht0 T_i4 ew15) mf_X11_bestMove tw_285 tw_284 ts_X11_bestMove (Or.inl (by decide +kernel)) dX11_plan_77 rfl (by omega) (Nat.le_refl _) (Nat.le_refl _) rfl (Nat.le_of_ble_eq_true rfl) (ab_kPi ?_)
    refine ab_istore (pc2 := 82) (lo2 := [some (va_rf _), some (.int _), none, some (.int _), some (va_rf _), some (.int _), some (.int _)]) dX11_plan_80 rfl (by decide) rfl ?_
    refine ab_iload_n (pc2 := 83) dX11_plan_82 rfl rfl ?_
    refine ab_iconst (pc2 := 84) (v := 1) dX11_plan_83 rfl ab_k_iconst_1 ?_
    refine ab_icmp_ne (tgt := 92) (pc2 := 87) dX11_plan_84 (by decide) rfl hf (fun c16 hf => ?_) (fun c16 hf => ?_)
    · refine ab_aload_n (x := _) (pc2 := 93) dX11_plan_92 rfl rfl ?_
      refine ab_iload (pc2 := 95) dX11_plan_93 rfl rfl ?_
      refine ab_iload_n (pc2 := 96) dX11_plan_95 rfl rfl ?_
      refine ab_aload (x := _) (pc2 := 98) dX11_plan_96 rfl rfl ?_
      obtain ⟨w17, ew17, hf⟩ := ab_bind hf
      refine ab_callV (pc2 := 101) (st := []) rfl ht0 (by decide) (m_X11_worthOfMove (d := (d + 1)) ht0 T_i4 ew17) mf_X11_worthOfMove tw_274 tw_273 ts_X11_worthOfMove (Or.inl (by decide +kernel)) dX11_plan_98 rfl (by omega) (Nat.le_refl _) (Nat.le_refl _) rfl (Nat.le_of_ble_eq_true rfl) (ab_kPi ?_)
      cases Option.some.inj hf
      exact ab_retI dX11_plan_101 (Or.inl rfl) (Nat.le_refl _) (Nat.le_refl _) ⟨rfl, rfl⟩
    · refine ab_iload (pc2 := 89) dX11_plan_87 rfl rfl ?_
      refine ab_goto (tgt := 101) dX11_plan_89 (by decide) ?_
      cases Option.some.inj hf
      exact ab_retI dX11_plan_101 (Or.inl rfl) (Nat.le_refl _) (Nat.le_refl _) ⟨rfl, rfl⟩
  · refine ab_ldc (pc2 := 65) (v := (-1000000000)) dX11_plan_63 rfl tw_286 ?_
    refine ab_iload (pc2 := 67) dX11_plan_65 rfl rfl ?_
    refine ab_iadd (pc2 := 68) dX11_plan_67 rfl ?_
    cases Option.some.inj hf
    exact ab_retI dX11_plan_68 (Or.inl rfl) (Nat.le_refl _) (Nat.le_refl _) ⟨rfl, rfl⟩
set_option maxHeartbeats 4000000 in
set_option maxRecDepth 100000 in
theorem x_X11_plan {d : Nat} {t0 : Nat} {i1 : Int32} {i2 : Int32} {i3 : Int32} {h : ab_HP} {r : (Int32 × ab_HP)} (ht0 : (ab_shp t0).1 = 0) (hf : f_X11_plan t0 i1 i2 i3 h = some r) : ab_T mX11_plan (d + 7) 0 0 0 0 0 [some (va_rf (some t0)), some (.int i1), some (.int i2), some (.int i3), none, none, none] [] h (ab_Pi r.1 r.2) := by
  unfold f_X11_plan at hf
  refine ab_aload_n (x := _) (pc2 := 1) dX11_plan_0 rfl rfl ?_
  refine ab_iload_n (pc2 := 2) dX11_plan_1 rfl rfl ?_
  obtain ⟨w1, ew1, hf⟩ := ab_bind hf
  refine ab_callV (pc2 := 5) (st := []) rfl ht0 (by decide) (m_X11_shelfAt (d := (d + 6)) ht0 ew1) mf_X11_shelfAt tw_93 tw_92 ts_X11_shelfAt (Or.inl (by decide +kernel)) dX11_plan_2 rfl (by omega) (Nat.le_refl _) (Nat.le_refl _) rfl (Nat.le_of_ble_eq_true rfl) (ab_kPr fun T2 => ?_)
  refine ab_astore (pc2 := 7) (lo2 := [some (va_rf _), some (.int _), some (.int _), some (.int _), some (va_rf _), none, none]) dX11_plan_5 rfl (by decide) rfl ?_
  refine ab_aload (x := _) (pc2 := 9) dX11_plan_7 rfl rfl ?_
  refine ab_nul (tgt := 31) (pc2 := 12) dX11_plan_9 (by decide) rfl hf (fun hq3 hf => ?_) (fun q3 hq3 hf => ?_)
  · refine ab_ldc (pc2 := 33) (v := (-1000000001)) dX11_plan_31 rfl tw_277 ?_
    cases Option.some.inj hf
    exact ab_retI dX11_plan_33 (Or.inl rfl) (Nat.le_refl _) (Nat.le_refl _) ⟨rfl, rfl⟩
  · refine ab_iload_n (pc2 := 13) dX11_plan_12 rfl rfl ?_
    refine ab_iconst (pc2 := 14) (v := 1) dX11_plan_13 rfl ab_k_iconst_1 ?_
    refine ab_icmp_lt (tgt := 31) (pc2 := 17) dX11_plan_14 (by decide) rfl hf (fun c4 hf => ?_) (fun c4 hf => ?_)
    · refine ab_ldc (pc2 := 33) (v := (-1000000001)) dX11_plan_31 rfl tw_277 ?_
      cases Option.some.inj hf
      exact ab_retI dX11_plan_33 (Or.inl rfl) (Nat.le_refl _) (Nat.le_refl _) ⟨rfl, rfl⟩
    · refine ab_iload_n (pc2 := 18) dX11_plan_17 rfl rfl ?_
      refine ab_iconst (pc2 := 19) (v := 2) dX11_plan_18 rfl ab_k_iconst_2 ?_
      refine ab_icmp_gt (tgt := 31) (pc2 := 22) dX11_plan_19 (by decide) rfl hf (fun c5 hf => ?_) (fun c5 hf => ?_)
      · refine ab_ldc (pc2 := 33) (v := (-1000000001)) dX11_plan_31 rfl tw_277 ?_
        cases Option.some.inj hf
        exact ab_retI dX11_plan_33 (Or.inl rfl) (Nat.le_refl _) (Nat.le_refl _) ⟨rfl, rfl⟩
      · refine ab_iload_n (pc2 := 23) dX11_plan_22 rfl rfl ?_
        refine ab_if_lt (tgt := 31) (pc2 := 26) dX11_plan_23 (by decide) rfl hf (fun c6 hf => ?_) (fun c6 hf => ?_)
        · refine ab_ldc (pc2 := 33) (v := (-1000000001)) dX11_plan_31 rfl tw_277 ?_
          cases Option.some.inj hf
          exact ab_retI dX11_plan_33 (Or.inl rfl) (Nat.le_refl _) (Nat.le_refl _) ⟨rfl, rfl⟩
        · refine ab_iload_n (pc2 := 27) dX11_plan_26 rfl rfl ?_
          refine ab_iconst (pc2 := 28) (v := 1) dX11_plan_27 rfl ab_k_iconst_1 ?_
          refine ab_icmp_le (tgt := 34) (pc2 := 31) dX11_plan_28 (by decide) rfl hf (fun c7 hf => ?_) (fun c7 hf => ?_)
          · refine ab_aload (x := _) (pc2 := 36) dX11_plan_34 rfl rfl ?_
            obtain ⟨w8, ew8, hf⟩ := ab_bind hf
            refine ab_callV (pc2 := 39) (st := []) hq3 (T2 q3 hq3) (by decide) (m_X6_rowRefusal (d := (d + 5)) (T2 q3 hq3) ew8) mf_X6_rowRefusal tw_279 tw_278 ts_X6_rowRefusal (Or.inl (by decide +kernel)) dX11_plan_36 rfl (by omega) (Nat.le_refl _) (Nat.le_refl _) rfl (Nat.le_of_ble_eq_true rfl) (ab_kPi ?_)
            refine ab_istore (pc2 := 41) (lo2 := [some (va_rf _), some (.int _), some (.int _), some (.int _), some (va_rf _), some (.int _), none]) dX11_plan_39 rfl (by decide) (ab_st1_rf (j := 4) rfl rfl) ?_
            refine ab_iload (pc2 := 43) dX11_plan_41 rfl rfl ?_
            refine ab_if_ne (tgt := 58) (pc2 := 46) dX11_plan_43 (by decide) rfl hf (fun c9 hf => ?_) (fun c9 hf => ?_)
            · exact ab_weak (x_X11_plan_b58 ht0 T2 hf) (ab_leS (ab_leS (ab_leN (ab_leS (ab_leS (ab_leS (ab_leN ab_le0)))))))
            · refine ab_aload (x := _) (pc2 := 48) dX11_plan_46 rfl rfl ?_
              obtain ⟨w10, ew10, hf⟩ := ab_bind hf
              refine ab_callS (pc2 := 51) (st := []) (m_X11_areWorths (d := (d + 4)) T2 ew10) mf_X11_areWorths tw_280 tw_281 dX11_plan_48 rfl (by omega) (Nat.le_refl _) (Nat.le_refl _) rfl (Nat.le_of_ble_eq_true rfl) (ab_kPb fun z11 => ?_)
              refine ab_if_ne (tgt := 58) (pc2 := 54) dX11_plan_51 (by decide) rfl hf (fun c12 hf => ?_) (fun c12 hf => ?_)
              · exact ab_weak (x_X11_plan_b58 ht0 T2 hf) (ab_leS (ab_leS (ab_leN (ab_leS (ab_leS (ab_leS (ab_leN ab_le0)))))))
              · refine ab_bipush (pc2 := 56) (v := (-13)) dX11_plan_54 rfl ab_k_bipush_m13 ?_
                refine ab_istore (pc2 := 58) (lo2 := [some (va_rf _), some (.int _), some (.int _), some (.int _), some (va_rf _), some (.int _), none]) dX11_plan_56 rfl (by decide) (ab_st1_rf (j := 4) rfl rfl) ?_
                exact ab_weak (x_X11_plan_b58 ht0 T2 hf) (ab_leS (ab_leS (ab_leN (ab_leS (ab_leS (ab_leS (ab_leN ab_le0)))))))
          · refine ab_ldc (pc2 := 33) (v := (-1000000001)) dX11_plan_31 rfl tw_277 ?_
            cases Option.some.inj hf
            exact ab_retI dX11_plan_33 (Or.inl rfl) (Nat.le_refl _) (Nat.le_refl _) ⟨rfl, rfl⟩
set_option maxHeartbeats 4000000 in
set_option maxRecDepth 100000 in
theorem m_X11_plan {d : Nat} {t0 : Nat} {i1 : Int32} {i2 : Int32} {i3 : Int32} {h : ab_HP} {r : (Int32 × ab_HP)} (ht0 : (ab_shp t0).1 = 0) (hf : f_X11_plan t0 i1 i2 i3 h = some r) : ab_MET mX11_plan (d + 7) 0 0 [va_rf (some t0), .int i1, .int i2, .int i3] h (ab_Pi r.1 r.2) := ab_met (by decide +kernel) (by decide +kernel) (Nat.le_of_ble_eq_true rfl) rfl (x_X11_plan ht0 hf)
set_option maxHeartbeats 4000000 in
set_option maxRecDepth 100000 in
theorem x_X11_ever_l18 {d : Nat} {k10 : Int32 → Int32 → ab_HP → Option Int32} {t0 : Nat} {r : Int32} (ht0 : (ab_shp t0).1 = 0) (hk10 : ∀ (i1 : Int32) (i2 : Int32) (h : ab_HP), k10 i1 i2 h = some r → ab_T mX11_ever (d + 1) 0 0 0 0 10 [some (va_rf (some t0)), some (.int i1), some (.int i2), none, none] [] h (ab_Pi r h)) : ∀ (n : Nat) (i1 : Int32) (i2 : Int32) (i3 : Int32) (h : ab_HP), f_X11_ever_l18 k10 t0 n i1 i2 i3 h = some r → ab_T mX11_ever (d + 1) 0 0 0 0 18 [some (va_rf (some t0)), some (.int i1), some (.int i2), some (.int i3), none] [] h (ab_Pi r h) := by
  intro n
  induction n with
  | zero =>
    intro i1 i2 i3 h hf
    rw [f_X11_ever_l18] at hf
    cases hf
  | succ n ih =>
    intro i1 i2 i3 h hf
    rw [f_X11_ever_l18] at hf
    refine ab_iload_n (pc2 := 19) dX11_ever_18 rfl rfl ?_
    refine ab_aload_n (x := _) (pc2 := 20) dX11_ever_19 rfl rfl ?_
    refine ab_getR (pc2 := 23) rfl ht0 fa_X11_10 dX11_ever_20 rfl (fun T4 => ?_)
    obtain ⟨q5, hq5, hf⟩ := ab_bind hf
    refine ab_getI (pc2 := 26) hq5 (T4 q5 hq5) fa_X11_207 (by decide) dX11_ever_23 rfl ?_
    refine ab_icmp_ge (tgt := 67) (pc2 := 29) dX11_ever_26 (by decide) rfl hf (fun c6 hf => ?_) (fun c6 hf => ?_)
    · refine ab_iinc (pc2 := 70) (v := _ + 1) (lo2 := [some (va_rf _), some (.int _), some (.int _), some (.int _), none]) dX11_ever_67 rfl rfl rfl (by decide) rfl ?_
      refine ab_goto (tgt := 10) dX11_ever_70 (by decide) ?_
      exact ab_weak (hk10 _ _ _ hf) (ab_leS (ab_leS (ab_leS (ab_leN (ab_leN ab_le0)))))
    · refine ab_aload_n (x := _) (pc2 := 30) dX11_ever_29 rfl rfl ?_
      refine ab_getR (pc2 := 33) rfl ht0 fa_X11_10 dX11_ever_30 rfl (fun T7 => ?_)
      refine ab_iload_n (pc2 := 34) dX11_ever_33 rfl rfl ?_
      obtain ⟨q8, hq8, hf⟩ := ab_bind hf
      obtain ⟨w9, ew9, hf⟩ := ab_bind hf
      refine ab_callV (pc2 := 37) (st := []) hq8 (T7 q8 hq8) (by decide) (m_X9_deedAt (d := (d + 0)) (T7 q8 hq8) ew9) mf_X9_deedAt tw_127 tw_18 ts_X9_deedAt (Or.inl (by decide +kernel)) dX11_ever_34 rfl (by omega) (Nat.le_refl _) (Nat.le_refl _) rfl (Nat.le_of_ble_eq_true rfl) (ab_kPr fun T10 => ?_)
      refine ab_astore (pc2 := 39) (lo2 := [some (va_rf _), some (.int _), some (.int _), some (.int _), some (va_rf _)]) dX11_ever_37 rfl (by decide) rfl ?_
      refine ab_aload (x := _) (pc2 := 41) dX11_ever_39 rfl rfl ?_
      refine ab_nul (tgt := 61) (pc2 := 44) dX11_ever_41 (by decide) rfl hf (fun hq11 hf => ?_) (fun q11 hq11 hf => ?_)
      · refine ab_iinc (pc2 := 64) (v := _ + 1) (lo2 := [some (va_rf _), some (.int _), some (.int _), some (.int _), some (va_rf _)]) dX11_ever_61 rfl rfl rfl (by decide) rfl ?_
        refine ab_goto (tgt := 18) dX11_ever_64 (by decide) ?_
        exact ab_weak (ih _ _ _ _ hf) (ab_leS (ab_leS (ab_leS (ab_leS (ab_leN ab_le0)))))
      · refine ab_aload (x := _) (pc2 := 46) dX11_ever_44 rfl rfl ?_
        refine ab_iload_n (pc2 := 47) dX11_ever_46 rfl rfl ?_
        obtain ⟨w12, ew12, hf⟩ := ab_bind hf
        refine ab_callV (pc2 := 50) (st := []) hq11 (T10 q11 hq11) (by decide) (m_X1_hasGround (d := (d + 0)) (T10 q11 hq11) ew12) mf_X1_hasGround tw_298 tw_146 ts_X1_hasGround (Or.inr tw_147) dX11_ever_47 rfl (by omega) (Nat.le_refl _) (Nat.le_refl _) rfl (Nat.le_of_ble_eq_true rfl) (ab_kPb fun z13 => ?_)
        refine ab_if_eq (tgt := 61) (pc2 := 53) dX11_ever_50 (by decide) rfl hf (fun c14 hf => ?_) (fun c14 hf => ?_)
        · refine ab_iinc (pc2 := 64) (v := _ + 1) (lo2 := [some (va_rf _), some (.int _), some (.int _), some (.int _), some (va_rf _)]) dX11_ever_61 rfl rfl rfl (by decide) rfl ?_
          refine ab_goto (tgt := 18) dX11_ever_64 (by decide) ?_
          exact ab_weak (ih _ _ _ _ hf) (ab_leS (ab_leS (ab_leS (ab_leS (ab_leN ab_le0)))))
        · refine ab_iload_n (pc2 := 54) dX11_ever_53 rfl rfl ?_
          refine ab_aload (x := _) (pc2 := 56) dX11_ever_54 rfl rfl ?_
          refine ab_getI (pc2 := 59) hq11 (T10 q11 hq11) fa_X11_213 (by decide) dX11_ever_56 rfl ?_
          refine ab_ior (pc2 := 60) dX11_ever_59 rfl ?_
          refine ab_istore_n (pc2 := 61) (lo2 := [some (va_rf _), some (.int _), some (.int _), some (.int _), some (va_rf _)]) dX11_ever_60 rfl (by decide) rfl ?_
          refine ab_iinc (pc2 := 64) (v := _ + 1) (lo2 := [some (va_rf _), some (.int _), some (.int _), some (.int _), some (va_rf _)]) dX11_ever_61 rfl rfl rfl (by decide) rfl ?_
          refine ab_goto (tgt := 18) dX11_ever_64 (by decide) ?_
          exact ab_weak (ih _ _ _ _ hf) (ab_leS (ab_leS (ab_leS (ab_leS (ab_leN ab_le0)))))
set_option maxHeartbeats 4000000 in
set_option maxRecDepth 100000 in
theorem x_X11_ever_l10 {d : Nat} {t0 : Nat} {r : Int32} (ht0 : (ab_shp t0).1 = 0) : ∀ (n : Nat) (i1 : Int32) (i2 : Int32) (h : ab_HP), f_X11_ever_l10 t0 n i1 i2 h = some r → ab_T mX11_ever (d + 1) 0 0 0 0 10 [some (va_rf (some t0)), some (.int i1), some (.int i2), none, none] [] h (ab_Pi r h) := by
  intro n
  induction n with
  | zero =>
    intro i1 i2 h hf
    rw [f_X11_ever_l10] at hf
    cases hf
  | succ n ih =>
    intro i1 i2 h hf
    rw [f_X11_ever_l10] at hf
    refine ab_iload_n (pc2 := 11) dX11_ever_10 rfl rfl ?_
    refine ab_bipush (pc2 := 13) (v := 10) dX11_ever_11 rfl ab_k_bipush_10 ?_
    refine ab_icmp_ge (tgt := 73) (pc2 := 16) dX11_ever_13 (by decide) rfl hf (fun c3 hf => ?_) (fun c3 hf => ?_)
    · refine ab_iload_n (pc2 := 74) dX11_ever_73 rfl rfl ?_
      cases Option.some.inj hf
      exact ab_retI dX11_ever_74 (Or.inl rfl) (Nat.le_refl _) (Nat.le_refl _) ⟨rfl, rfl⟩
    · refine ab_iconst (pc2 := 17) (v := 0) dX11_ever_16 rfl ab_k_iconst_0 ?_
      refine ab_istore_n (pc2 := 18) (lo2 := [some (va_rf _), some (.int _), some (.int _), some (.int _), none]) dX11_ever_17 rfl (by decide) rfl ?_
      exact ab_weak (x_X11_ever_l18 ht0 ih _ _ _ _ _ hf) (ab_leS (ab_leS (ab_leS (ab_leS (ab_leN ab_le0)))))
set_option maxHeartbeats 4000000 in
set_option maxRecDepth 100000 in
theorem x_X11_ever {d : Nat} {t0 : Nat} {h : ab_HP} {r : Int32} (ht0 : (ab_shp t0).1 = 0) (hf : f_X11_ever t0 h = some r) : ab_T mX11_ever (d + 1) 0 0 0 0 0 [some (va_rf (some t0)), none, none, none, none] [] h (ab_Pi r h) := by
  unfold f_X11_ever at hf
  refine ab_aload_n (x := _) (pc2 := 1) dX11_ever_0 rfl rfl ?_
  refine ab_getR (pc2 := 4) rfl ht0 fa_X11_10 dX11_ever_1 rfl (fun T1 => ?_)
  obtain ⟨q2, hq2, hf⟩ := ab_bind hf
  refine ab_getI (pc2 := 7) hq2 (T1 q2 hq2) fa_X11_94 (by decide) dX11_ever_4 rfl ?_
  refine ab_istore_n (pc2 := 8) (lo2 := [some (va_rf _), some (.int _), none, none, none]) dX11_ever_7 rfl (by decide) rfl ?_
  refine ab_iconst (pc2 := 9) (v := 0) dX11_ever_8 rfl ab_k_iconst_0 ?_
  refine ab_istore_n (pc2 := 10) (lo2 := [some (va_rf _), some (.int _), some (.int _), none, none]) dX11_ever_9 rfl (by decide) rfl ?_
  exact ab_weak (x_X11_ever_l10 ht0 _ _ _ _ hf) (ab_leS (ab_leS (ab_leS (ab_leN (ab_leN ab_le0)))))
set_option maxHeartbeats 4000000 in
set_option maxRecDepth 100000 in
theorem m_X11_ever {d : Nat} {t0 : Nat} {h : ab_HP} {r : Int32} (ht0 : (ab_shp t0).1 = 0) (hf : f_X11_ever t0 h = some r) : ab_MET mX11_ever (d + 1) 0 0 [va_rf (some t0)] h (ab_Pi r h) := ab_met (by decide +kernel) (by decide +kernel) (Nat.le_of_ble_eq_true rfl) rfl (x_X11_ever ht0 hf)
set_option maxHeartbeats 4000000 in
set_option maxRecDepth 100000 in
theorem x_X11_help_l4 {d : Nat} {t0 : Nat} {r : Int32} (ht0 : (ab_shp t0).1 = 0) : ∀ (n : Nat) (i1 : Int32) (i2 : Int32) (h : ab_HP), f_X11_help_l4 t0 n i1 i2 h = some r → ab_T mX11_help (d + 2) 0 0 0 0 4 [some (va_rf (some t0)), some (.int i1), some (.int i2), none] [] h (ab_Pi r h) := by
  intro n
  induction n with
  | zero =>
    intro i1 i2 h hf
    rw [f_X11_help_l4] at hf
    cases hf
  | succ n ih =>
    intro i1 i2 h hf
    rw [f_X11_help_l4] at hf
    refine ab_iload_n (pc2 := 5) dX11_help_4 rfl rfl ?_
    refine ab_aload_n (x := _) (pc2 := 6) dX11_help_5 rfl rfl ?_
    refine ab_getR (pc2 := 9) rfl ht0 fa_X11_10 dX11_help_6 rfl (fun T1 => ?_)
    obtain ⟨q2, hq2, hf⟩ := ab_bind hf
    refine ab_getI (pc2 := 12) hq2 (T1 q2 hq2) fa_X11_207 (by decide) dX11_help_9 rfl ?_
    refine ab_icmp_ge (tgt := 70) (pc2 := 15) dX11_help_12 (by decide) rfl hf (fun c3 hf => ?_) (fun c3 hf => ?_)
    · refine ab_iload_n (pc2 := 71) dX11_help_70 rfl rfl ?_
      cases Option.some.inj hf
      exact ab_retI dX11_help_71 (Or.inl rfl) (Nat.le_refl _) (Nat.le_refl _) ⟨rfl, rfl⟩
    · refine ab_aload_n (x := _) (pc2 := 16) dX11_help_15 rfl rfl ?_
      refine ab_getR (pc2 := 19) rfl ht0 fa_X11_10 dX11_help_16 rfl (fun T4 => ?_)
      refine ab_iload_n (pc2 := 20) dX11_help_19 rfl rfl ?_
      obtain ⟨q5, hq5, hf⟩ := ab_bind hf
      obtain ⟨w6, ew6, hf⟩ := ab_bind hf
      refine ab_callV (pc2 := 23) (st := []) hq5 (T4 q5 hq5) (by decide) (m_X9_deedAt (d := (d + 1)) (T4 q5 hq5) ew6) mf_X9_deedAt tw_127 tw_18 ts_X9_deedAt (Or.inl (by decide +kernel)) dX11_help_20 rfl (by omega) (Nat.le_refl _) (Nat.le_refl _) rfl (Nat.le_of_ble_eq_true rfl) (ab_kPr fun T7 => ?_)
      refine ab_astore_n (pc2 := 24) (lo2 := [some (va_rf _), some (.int _), some (.int _), some (va_rf _)]) dX11_help_23 rfl (by decide) rfl ?_
      refine ab_aload_n (x := _) (pc2 := 25) dX11_help_24 rfl rfl ?_
      refine ab_nul (tgt := 64) (pc2 := 28) dX11_help_25 (by decide) rfl hf (fun hq8 hf => ?_) (fun q8 hq8 hf => ?_)
      · refine ab_iinc (pc2 := 67) (v := _ + 1) (lo2 := [some (va_rf _), some (.int _), some (.int _), some (va_rf _)]) dX11_help_64 rfl rfl rfl (by decide) rfl ?_
        refine ab_goto (tgt := 4) dX11_help_67 (by decide) ?_
        exact ab_weak (ih _ _ _ hf) (ab_leS (ab_leS (ab_leS (ab_leN ab_le0))))
      · refine ab_aload_n (x := _) (pc2 := 29) dX11_help_28 rfl rfl ?_
        refine ab_aload_n (x := _) (pc2 := 30) dX11_help_29 rfl rfl ?_
        refine ab_getR (pc2 := 33) rfl ht0 fa_X11_10 dX11_help_30 rfl (fun T9 => ?_)
        obtain ⟨q10, hq10, hf⟩ := ab_bind hf
        refine ab_getI (pc2 := 36) hq10 (T9 q10 hq10) fa_X11_94 (by decide) dX11_help_33 rfl ?_
        refine ab_aload_n (x := _) (pc2 := 37) dX11_help_36 rfl rfl ?_
        refine ab_getR (pc2 := 40) rfl ht0 fa_X11_10 dX11_help_37 rfl (fun T11 => ?_)
        obtain ⟨q12, hq12, hf⟩ := ab_bind hf
        refine ab_getI (pc2 := 43) hq12 (T11 q12 hq12) fa_X11_97 (by decide) dX11_help_40 rfl ?_
        obtain ⟨w13, ew13, hf⟩ := ab_bind hf
        refine ab_callV (pc2 := 46) (st := []) hq8 (T7 q8 hq8) (by decide) (m_X1_mayBeDone (d := (d + 0)) (T7 q8 hq8) ew13) mf_X1_mayBeDone tw_151 tw_149 ts_X1_mayBeDone (Or.inr tw_150) dX11_help_43 rfl (by omega) (Nat.le_refl _) (Nat.le_refl _) rfl (Nat.le_of_ble_eq_true rfl) (ab_kPb fun z14 => ?_)
        refine ab_if_eq (tgt := 64) (pc2 := 49) dX11_help_46 (by decide) rfl hf (fun c15 hf => ?_) (fun c15 hf => ?_)
        · refine ab_iinc (pc2 := 67) (v := _ + 1) (lo2 := [some (va_rf _), some (.int _), some (.int _), some (va_rf _)]) dX11_help_64 rfl rfl rfl (by decide) rfl ?_
          refine ab_goto (tgt := 4) dX11_help_67 (by decide) ?_
          exact ab_weak (ih _ _ _ hf) (ab_leS (ab_leS (ab_leS (ab_leN ab_le0))))
        · refine ab_iload_n (pc2 := 50) dX11_help_49 rfl rfl ?_
          refine ab_aload_n (x := _) (pc2 := 51) dX11_help_50 rfl rfl ?_
          refine ab_getR (pc2 := 54) rfl ht0 fa_X11_10 dX11_help_51 rfl (fun T16 => ?_)
          obtain ⟨q17, hq17, hf⟩ := ab_bind hf
          refine ab_getI (pc2 := 57) hq17 (T16 q17 hq17) fa_X11_94 (by decide) dX11_help_54 rfl ?_
          refine ab_aload_n (x := _) (pc2 := 58) dX11_help_57 rfl rfl ?_
          refine ab_getI (pc2 := 61) hq8 (T7 q8 hq8) fa_X11_216 (by decide) dX11_help_58 rfl ?_
          refine ab_iand (pc2 := 62) dX11_help_61 rfl ?_
          refine ab_ior (pc2 := 63) dX11_help_62 rfl ?_
          obtain ⟨v18, ev18, hf⟩ := ab_let_x hf
          refine ab_topI ev18 ?_
          refine ab_istore_n (pc2 := 64) (lo2 := [some (va_rf _), some (.int _), some (.int _), some (va_rf _)]) dX11_help_63 rfl (by decide) rfl ?_
          refine ab_iinc (pc2 := 67) (v := _ + 1) (lo2 := [some (va_rf _), some (.int _), some (.int _), some (va_rf _)]) dX11_help_64 rfl rfl rfl (by decide) rfl ?_
          refine ab_goto (tgt := 4) dX11_help_67 (by decide) ?_
          exact ab_weak (ih _ _ _ hf) (ab_leS (ab_leS (ab_leS (ab_leN ab_le0))))
set_option maxHeartbeats 4000000 in
set_option maxRecDepth 100000 in
theorem x_X11_help {d : Nat} {t0 : Nat} {h : ab_HP} {r : Int32} (ht0 : (ab_shp t0).1 = 0) (hf : f_X11_help t0 h = some r) : ab_T mX11_help (d + 2) 0 0 0 0 0 [some (va_rf (some t0)), none, none, none] [] h (ab_Pi r h) := by
  unfold f_X11_help at hf
  refine ab_iconst (pc2 := 1) (v := 0) dX11_help_0 rfl ab_k_iconst_0 ?_
  refine ab_istore_n (pc2 := 2) (lo2 := [some (va_rf _), some (.int _), none, none]) dX11_help_1 rfl (by decide) rfl ?_
  refine ab_iconst (pc2 := 3) (v := 0) dX11_help_2 rfl ab_k_iconst_0 ?_
  refine ab_istore_n (pc2 := 4) (lo2 := [some (va_rf _), some (.int _), some (.int _), none]) dX11_help_3 rfl (by decide) rfl ?_
  exact ab_weak (x_X11_help_l4 ht0 _ _ _ _ hf) (ab_leS (ab_leS (ab_leS (ab_leN ab_le0))))
set_option maxHeartbeats 4000000 in
set_option maxRecDepth 100000 in
theorem m_X11_help {d : Nat} {t0 : Nat} {h : ab_HP} {r : Int32} (ht0 : (ab_shp t0).1 = 0) (hf : f_X11_help t0 h = some r) : ab_MET mX11_help (d + 2) 0 0 [va_rf (some t0)] h (ab_Pi r h) := ab_met (by decide +kernel) (by decide +kernel) (Nat.le_of_ble_eq_true rfl) rfl (x_X11_help ht0 hf)
set_option maxHeartbeats 4000000 in
set_option maxRecDepth 100000 in
theorem x_X11_playTwo_b89 {d : Nat} {k20 : Option Nat → Option Nat → Int32 → Int32 → Int32 → Int32 → Int32 → ab_HP → Option (Int32 × ab_HP)} {t0 : Nat} {i1 : Option Nat} {i2 : Option Nat} {i3 : Int32} {i4 : Int32} {i5 : Int32} {i6 : Int32} {i7 : Int32} {h : ab_HP} {r : (Int32 × ab_HP)} (ht0 : (ab_shp t0).1 = 0) (hk20 : ∀ (i1 : Option Nat) (i2 : Option Nat) (i3 : Int32) (i4 : Int32) (i5 : Int32) (i6 : Int32) (i7 : Int32) (h : ab_HP), (∀ z, i1 = some z → (ab_shp z).1 = 3) → (∀ z, i2 = some z → (ab_shp z).1 = 3) → k20 i1 i2 i3 i4 i5 i6 i7 h = some r → ab_T mX11_playTwo (d + 5) 0 0 0 0 20 [some (va_rf (some t0)), some (va_rf i1), some (va_rf i2), some (.int i3), some (.int i4), some (.int i5), some (.int i6), some (.int i7)] [] h (ab_Pi r.1 r.2)) (T_i1 : ∀ z, i1 = some z → (ab_shp z).1 = 3) (T_i2 : ∀ z, i2 = some z → (ab_shp z).1 = 3) (hf : f_X11_playTwo_b89 k20 t0 i1 i2 i3 i4 i5 i6 i7 h = some r) : ab_T mX11_playTwo (d + 5) 0 0 0 0 89 [some (va_rf (some t0)), some (va_rf i1), some (va_rf i2), some (.int i3), some (.int i4), some (.int i5), some (.int i6), some (.int i7)] [] h (ab_Pi r.1 r.2) := by
  unfold f_X11_playTwo_b89 at hf
  refine ab_iload (pc2 := 91) dX11_playTwo_89 rfl rfl ?_
  refine ab_aload_n (x := _) (pc2 := 92) dX11_playTwo_91 rfl rfl ?_
  obtain ⟨q25, hq25, hf⟩ := ab_bind hf
  refine ab_getI (pc2 := 95) hq25 (T_i2 q25 hq25) fa_X11_182 (by decide) dX11_playTwo_92 rfl ?_
  refine ab_icmp_ge (tgt := 138) (pc2 := 98) dX11_playTwo_95 (by decide) rfl hf (fun c26 hf => ?_) (fun c26 hf => ?_)
  · refine ab_iinc (pc2 := 141) (v := _ + 1) (lo2 := [some (va_rf _), some (va_rf _), some (va_rf _), some (.int _), some (.int _), some (.int _), some (.int _), some (.int _)]) dX11_playTwo_138 rfl rfl rfl (by decide) rfl ?_
    refine ab_goto (tgt := 20) dX11_playTwo_141 (by decide) ?_
    exact ab_weak (hk20 _ _ _ _ _ _ _ _ T_i1 T_i2 hf) (ab_leS (ab_leS (ab_leS (ab_leS (ab_leS (ab_leS (ab_leS (ab_leS ab_le0))))))))
  · refine ab_iload (pc2 := 100) dX11_playTwo_98 rfl rfl ?_
    refine ab_iload (pc2 := 102) dX11_playTwo_100 rfl rfl ?_
    refine ab_iload (pc2 := 104) dX11_playTwo_102 rfl rfl ?_
    refine ab_ishr (pc2 := 105) dX11_playTwo_104 rfl ?_
    refine ab_iconst (pc2 := 106) (v := 1) dX11_playTwo_105 rfl ab_k_iconst_1 ?_
    refine ab_iand (pc2 := 107) dX11_playTwo_106 rfl ?_
    refine ab_aload_n (x := _) (pc2 := 108) dX11_playTwo_107 rfl rfl ?_
    refine ab_getR (pc2 := 111) rfl ht0 fa_X11_25 dX11_playTwo_108 rfl (fun T27 => ?_)
    obtain ⟨q28, hq28, hf⟩ := ab_bind hf
    refine ab_getI (pc2 := 114) hq28 (T27 q28 hq28) fa_X11_156 (by decide) dX11_playTwo_111 rfl ?_
    refine ab_ishl (pc2 := 115) dX11_playTwo_114 rfl ?_
    refine ab_ior (pc2 := 116) dX11_playTwo_115 rfl ?_
    obtain ⟨v29, ev29, hf⟩ := ab_let_x hf
    refine ab_topI ev29 ?_
    refine ab_istore (pc2 := 118) (lo2 := [some (va_rf _), some (va_rf _), some (va_rf _), some (.int _), some (.int _), some (.int _), some (.int _), some (.int _)]) dX11_playTwo_116 rfl (by decide) rfl ?_
    refine ab_aload_n (x := _) (pc2 := 119) dX11_playTwo_118 rfl rfl ?_
    refine ab_getR (pc2 := 122) rfl ht0 fa_X11_25 dX11_playTwo_119 rfl (fun T30 => ?_)
    refine ab_aload_n (x := _) (pc2 := 123) dX11_playTwo_122 rfl rfl ?_
    refine ab_getR (pc2 := 126) rfl ht0 fa_X11_10 dX11_playTwo_123 rfl (fun T31 => ?_)
    refine ab_aload_n (x := _) (pc2 := 127) dX11_playTwo_126 rfl rfl ?_
    refine ab_iload (pc2 := 129) dX11_playTwo_127 rfl rfl ?_
    obtain ⟨w32, ew32, hf⟩ := ab_bind hf
    refine ab_callV (pc2 := 132) (st := [_, _]) hq25 (T_i2 q25 hq25) (by decide) (m_X6_read (d := (d + 3)) (T_i2 q25 hq25) ew32) mf_X6_read tw_154 tw_24 ts_X6_read (Or.inl (by decide +kernel)) dX11_playTwo_129 rfl (by omega) (Nat.le_refl _) (Nat.le_refl _) rfl (Nat.le_of_ble_eq_true rfl) (ab_kPi ?_)
    obtain ⟨q33, hq33, hf⟩ := ab_bind hf
    obtain ⟨w34, ew34, hf⟩ := ab_bind hf
    refine ab_callV (pc2 := 135) (st := [_]) hq33 (T31 q33 hq33) (by decide) (m_X9_deedAt (d := (d + 4)) (T31 q33 hq33) ew34) mf_X9_deedAt tw_127 tw_18 ts_X9_deedAt (Or.inl (by decide +kernel)) dX11_playTwo_132 rfl (by omega) (Nat.le_refl _) (Nat.le_refl _) rfl (Nat.le_of_ble_eq_true rfl) (ab_kPr fun T35 => ?_)
    obtain ⟨q36, hq36, hf⟩ := ab_bind hf
    obtain ⟨w37, ew37, hf⟩ := ab_bind hf
    refine ab_callV (pc2 := 138) (st := []) hq36 (T30 q36 hq36) (by decide) (m_X10_add (d := (d + 4)) (T30 q36 hq36) T35 ew37) mf_X10_add tw_160 tw_159 ts_X10_add (Or.inl (by decide +kernel)) dX11_playTwo_135 rfl (by omega) (Nat.le_refl _) (Nat.le_refl _) rfl (Nat.le_of_ble_eq_true rfl) (ab_kPv ?_)
    refine ab_iinc (pc2 := 141) (v := _ + 1) (lo2 := [some (va_rf _), some (va_rf _), some (va_rf _), some (.int _), some (.int _), some (.int _), some (.int _), some (.int _)]) dX11_playTwo_138 rfl rfl rfl (by decide) rfl ?_
    refine ab_goto (tgt := 20) dX11_playTwo_141 (by decide) ?_
    exact ab_weak (hk20 _ _ _ _ _ _ _ _ T_i1 T_i2 hf) (ab_leS (ab_leS (ab_leS (ab_leS (ab_leS (ab_leS (ab_leS (ab_leS ab_le0))))))))
set_option maxHeartbeats 4000000 in
set_option maxRecDepth 100000 in
theorem x_X11_playTwo_l20 {d : Nat} {t0 : Nat} {r : (Int32 × ab_HP)} (ht0 : (ab_shp t0).1 = 0) : ∀ (n : Nat) (i1 : Option Nat) (i2 : Option Nat) (i3 : Int32) (i4 : Int32) (i5 : Int32) (i6 : Int32) (i7 : Int32) (h : ab_HP), (∀ z, i1 = some z → (ab_shp z).1 = 3) → (∀ z, i2 = some z → (ab_shp z).1 = 3) → f_X11_playTwo_l20 t0 n i1 i2 i3 i4 i5 i6 i7 h = some r → ab_T mX11_playTwo (d + 5) 0 0 0 0 20 [some (va_rf (some t0)), some (va_rf i1), some (va_rf i2), some (.int i3), some (.int i4), some (.int i5), some (.int i6), some (.int i7)] [] h (ab_Pi r.1 r.2) := by
  intro n
  induction n with
  | zero =>
    intro i1 i2 i3 i4 i5 i6 i7 h T_i1 T_i2 hf
    rw [f_X11_playTwo_l20] at hf
    cases hf
  | succ n ih =>
    intro i1 i2 i3 i4 i5 i6 i7 h T_i1 T_i2 hf
    rw [f_X11_playTwo_l20] at hf
    refine ab_iload (pc2 := 22) dX11_playTwo_20 rfl rfl ?_
    refine ab_bipush (pc2 := 24) (v := 8) dX11_playTwo_22 rfl ab_k_bipush_8 ?_
    refine ab_icmp_ge (tgt := 144) (pc2 := 27) dX11_playTwo_24 (by decide) rfl hf (fun c5 hf => ?_) (fun c5 hf => ?_)
    · refine ab_aload_n (x := _) (pc2 := 145) dX11_playTwo_144 rfl rfl ?_
      refine ab_getR (pc2 := 148) rfl ht0 fa_X11_25 dX11_playTwo_145 rfl (fun T6 => ?_)
      refine ab_iload (pc2 := 150) dX11_playTwo_148 rfl rfl ?_
      obtain ⟨q7, hq7, hf⟩ := ab_bind hf
      obtain ⟨w8, ew8, hf⟩ := ab_bind hf
      refine ab_callV (pc2 := 153) (st := []) hq7 (T6 q7 hq7) (by decide) (m_X10_play (d := (d + 0)) (T6 q7 hq7) ew8) mf_X10_play tw_195 tw_194 ts_X10_play (Or.inl (by decide +kernel)) dX11_playTwo_150 rfl (by omega) (Nat.le_refl _) (Nat.le_refl _) rfl (Nat.le_of_ble_eq_true rfl) (ab_kPv ?_)
      refine ab_iload (pc2 := 155) dX11_playTwo_153 rfl rfl ?_
      cases Option.some.inj hf
      exact ab_retI dX11_playTwo_155 (Or.inl rfl) (Nat.le_refl _) (Nat.le_refl _) ⟨rfl, rfl⟩
    · refine ab_iload (pc2 := 29) dX11_playTwo_27 rfl rfl ?_
      refine ab_aload_n (x := _) (pc2 := 30) dX11_playTwo_29 rfl rfl ?_
      obtain ⟨q9, hq9, hf⟩ := ab_bind hf
      refine ab_getI (pc2 := 33) hq9 (T_i1 q9 hq9) fa_X11_182 (by decide) dX11_playTwo_30 rfl ?_
      refine ab_icmp_ge (tgt := 89) (pc2 := 36) dX11_playTwo_33 (by decide) rfl hf (fun c10 hf => ?_) (fun c10 hf => ?_)
      · exact ab_weak (x_X11_playTwo_b89 ht0 ih T_i1 T_i2 hf) (ab_leS (ab_leS (ab_leS (ab_leS (ab_leS (ab_leS (ab_leS (ab_leS ab_le0))))))))
      · refine ab_iload (pc2 := 38) dX11_playTwo_36 rfl rfl ?_
        refine ab_iconst (pc2 := 39) (v := 1) dX11_playTwo_38 rfl ab_k_iconst_1 ?_
        refine ab_aload_n (x := _) (pc2 := 40) dX11_playTwo_39 rfl rfl ?_
        refine ab_getR (pc2 := 43) rfl ht0 fa_X11_25 dX11_playTwo_40 rfl (fun T11 => ?_)
        obtain ⟨q12, hq12, hf⟩ := ab_bind hf
        refine ab_getI (pc2 := 46) hq12 (T11 q12 hq12) fa_X11_156 (by decide) dX11_playTwo_43 rfl ?_
        refine ab_ishl (pc2 := 47) dX11_playTwo_46 rfl ?_
        refine ab_ior (pc2 := 48) dX11_playTwo_47 rfl ?_
        obtain ⟨v13, ev13, hf⟩ := ab_let_x hf
        refine ab_topI ev13 ?_
        refine ab_istore (pc2 := 50) (lo2 := [some (va_rf _), some (va_rf _), some (va_rf _), some (.int _), some (.int _), some (.int _), some (.int _), some (.int _)]) dX11_playTwo_48 rfl (by decide) rfl ?_
        refine ab_iload (pc2 := 52) dX11_playTwo_50 rfl rfl ?_
        refine ab_iload_n (pc2 := 53) dX11_playTwo_52 rfl rfl ?_
        refine ab_iload (pc2 := 55) dX11_playTwo_53 rfl rfl ?_
        refine ab_ishr (pc2 := 56) dX11_playTwo_55 rfl ?_
        refine ab_iconst (pc2 := 57) (v := 1) dX11_playTwo_56 rfl ab_k_iconst_1 ?_
        refine ab_iand (pc2 := 58) dX11_playTwo_57 rfl ?_
        refine ab_aload_n (x := _) (pc2 := 59) dX11_playTwo_58 rfl rfl ?_
        refine ab_getR (pc2 := 62) rfl ht0 fa_X11_25 dX11_playTwo_59 rfl (fun T14 => ?_)
        obtain ⟨q15, hq15, hf⟩ := ab_bind hf
        refine ab_getI (pc2 := 65) hq15 (T14 q15 hq15) fa_X11_156 (by decide) dX11_playTwo_62 rfl ?_
        refine ab_ishl (pc2 := 66) dX11_playTwo_65 rfl ?_
        refine ab_ior (pc2 := 67) dX11_playTwo_66 rfl ?_
        obtain ⟨v16, ev16, hf⟩ := ab_let_x hf
        refine ab_topI ev16 ?_
        refine ab_istore (pc2 := 69) (lo2 := [some (va_rf _), some (va_rf _), some (va_rf _), some (.int _), some (.int _), some (.int _), some (.int _), some (.int _)]) dX11_playTwo_67 rfl (by decide) rfl ?_
        refine ab_aload_n (x := _) (pc2 := 70) dX11_playTwo_69 rfl rfl ?_
        refine ab_getR (pc2 := 73) rfl ht0 fa_X11_25 dX11_playTwo_70 rfl (fun T17 => ?_)
        refine ab_aload_n (x := _) (pc2 := 74) dX11_playTwo_73 rfl rfl ?_
        refine ab_getR (pc2 := 77) rfl ht0 fa_X11_10 dX11_playTwo_74 rfl (fun T18 => ?_)
        refine ab_aload_n (x := _) (pc2 := 78) dX11_playTwo_77 rfl rfl ?_
        refine ab_iload (pc2 := 80) dX11_playTwo_78 rfl rfl ?_
        obtain ⟨w19, ew19, hf⟩ := ab_bind hf
        refine ab_callV (pc2 := 83) (st := [_, _]) hq9 (T_i1 q9 hq9) (by decide) (m_X6_read (d := (d + 3)) (T_i1 q9 hq9) ew19) mf_X6_read tw_154 tw_24 ts_X6_read (Or.inl (by decide +kernel)) dX11_playTwo_80 rfl (by omega) (Nat.le_refl _) (Nat.le_refl _) rfl (Nat.le_of_ble_eq_true rfl) (ab_kPi ?_)
        obtain ⟨q20, hq20, hf⟩ := ab_bind hf
        obtain ⟨w21, ew21, hf⟩ := ab_bind hf
        refine ab_callV (pc2 := 86) (st := [_]) hq20 (T18 q20 hq20) (by decide) (m_X9_deedAt (d := (d + 4)) (T18 q20 hq20) ew21) mf_X9_deedAt tw_127 tw_18 ts_X9_deedAt (Or.inl (by decide +kernel)) dX11_playTwo_83 rfl (by omega) (Nat.le_refl _) (Nat.le_refl _) rfl (Nat.le_of_ble_eq_true rfl) (ab_kPr fun T22 => ?_)
        obtain ⟨q23, hq23, hf⟩ := ab_bind hf
        obtain ⟨w24, ew24, hf⟩ := ab_bind hf
        refine ab_callV (pc2 := 89) (st := []) hq23 (T17 q23 hq23) (by decide) (m_X10_add (d := (d + 4)) (T17 q23 hq23) T22 ew24) mf_X10_add tw_160 tw_159 ts_X10_add (Or.inl (by decide +kernel)) dX11_playTwo_86 rfl (by omega) (Nat.le_refl _) (Nat.le_refl _) rfl (Nat.le_of_ble_eq_true rfl) (ab_kPv ?_)
        exact ab_weak (x_X11_playTwo_b89 ht0 ih T_i1 T_i2 hf) (ab_leS (ab_leS (ab_leS (ab_leS (ab_leS (ab_leS (ab_leS (ab_leS ab_le0))))))))
set_option maxHeartbeats 4000000 in
set_option maxRecDepth 100000 in
theorem x_X11_playTwo {d : Nat} {t0 : Nat} {i1 : Option Nat} {i2 : Option Nat} {i3 : Int32} {i4 : Int32} {h : ab_HP} {r : (Int32 × ab_HP)} (ht0 : (ab_shp t0).1 = 0) (T_i1 : ∀ z, i1 = some z → (ab_shp z).1 = 3) (T_i2 : ∀ z, i2 = some z → (ab_shp z).1 = 3) (hf : f_X11_playTwo t0 i1 i2 i3 i4 h = some r) : ab_T mX11_playTwo (d + 5) 0 0 0 0 0 [some (va_rf (some t0)), some (va_rf i1), some (va_rf i2), some (.int i3), some (.int i4), none, none, none] [] h (ab_Pi r.1 r.2) := by
  unfold f_X11_playTwo at hf
  refine ab_iconst (pc2 := 1) (v := 0) dX11_playTwo_0 rfl ab_k_iconst_0 ?_
  refine ab_istore (pc2 := 3) (lo2 := [some (va_rf _), some (va_rf _), some (va_rf _), some (.int _), some (.int _), some (.int _), none, none]) dX11_playTwo_1 rfl (by decide) rfl ?_
  refine ab_iconst (pc2 := 4) (v := 0) dX11_playTwo_3 rfl ab_k_iconst_0 ?_
  refine ab_istore (pc2 := 6) (lo2 := [some (va_rf _), some (va_rf _), some (va_rf _), some (.int _), some (.int _), some (.int _), some (.int _), none]) dX11_playTwo_4 rfl (by decide) rfl ?_
  refine ab_aload_n (x := _) (pc2 := 7) dX11_playTwo_6 rfl rfl ?_
  refine ab_getR (pc2 := 10) rfl ht0 fa_X11_25 dX11_playTwo_7 rfl (fun T1 => ?_)
  refine ab_aload_n (x := _) (pc2 := 11) dX11_playTwo_10 rfl rfl ?_
  refine ab_getR (pc2 := 14) rfl ht0 fa_X11_10 dX11_playTwo_11 rfl (fun T2 => ?_)
  obtain ⟨q3, hq3, hf⟩ := ab_bind hf
  obtain ⟨w4, ew4, hf⟩ := ab_bind hf
  refine ab_callV (pc2 := 17) (st := []) hq3 (T1 q3 hq3) (by decide) (m_X10_open (d := (d + 4)) (T1 q3 hq3) T2 ew4) mf_X10_open tw_158 tw_157 ts_X10_open (Or.inl (by decide +kernel)) dX11_playTwo_14 rfl (by omega) (Nat.le_refl _) (Nat.le_refl _) rfl (Nat.le_of_ble_eq_true rfl) (ab_kPv ?_)
  refine ab_iconst (pc2 := 18) (v := 0) dX11_playTwo_17 rfl ab_k_iconst_0 ?_
  refine ab_istore (pc2 := 20) (lo2 := [some (va_rf _), some (va_rf _), some (va_rf _), some (.int _), some (.int _), some (.int _), some (.int _), some (.int _)]) dX11_playTwo_18 rfl (by decide) rfl ?_
  exact ab_weak (x_X11_playTwo_l20 ht0 _ _ _ _ _ _ _ _ _ T_i1 T_i2 hf) (ab_leS (ab_leS (ab_leS (ab_leS (ab_leS (ab_leS (ab_leS (ab_leS ab_le0))))))))
set_option maxHeartbeats 4000000 in
set_option maxRecDepth 100000 in
theorem m_X11_playTwo {d : Nat} {t0 : Nat} {i1 : Option Nat} {i2 : Option Nat} {i3 : Int32} {i4 : Int32} {h : ab_HP} {r : (Int32 × ab_HP)} (ht0 : (ab_shp t0).1 = 0) (T_i1 : ∀ z, i1 = some z → (ab_shp z).1 = 3) (T_i2 : ∀ z, i2 = some z → (ab_shp z).1 = 3) (hf : f_X11_playTwo t0 i1 i2 i3 i4 h = some r) : ab_MET mX11_playTwo (d + 5) 0 0 [va_rf (some t0), va_rf i1, va_rf i2, .int i3, .int i4] h (ab_Pi r.1 r.2) := ab_met (by decide +kernel) (by decide +kernel) (by simp [ab_lo, ab_rf1, ab_cI, ab_cJ]) (by simp [ab_lo0, ab_lo, ab_rf1, ab_cI, ab_cJ, List.replicate]) (x_X11_playTwo ht0 T_i1 T_i2 hf)
set_option maxHeartbeats 4000000 in
set_option maxRecDepth 100000 in
theorem x_X11_two_b71 {d : Nat} {t0 : Nat} {i3 : Int32} {i4 : Int32} {i5 : Int32} {i6 : Option Nat} {i7 : Option Nat} {i8 : Int32} {h : ab_HP} {r : (Int32 × ab_HP)} (ht0 : (ab_shp t0).1 = 0) (T_i6 : ∀ z, i6 = some z → (ab_shp z).1 = 3) (T_i7 : ∀ z, i7 = some z → (ab_shp z).1 = 3) (hf : f_X11_two_b71 t0 i3 i4 i5 i6 i7 i8 h = some r) : ab_T mX11_two (d + 6) 0 0 0 0 71 [some (va_rf (some t0)), none, none, some (.int i3), some (.int i4), some (.int i5), some (va_rf i6), some (va_rf i7), some (.int i8), none] [] h (ab_Pi r.1 r.2) := by
  unfold f_X11_two_b71 at hf
  refine ab_iload (pc2 := 73) dX11_two_71 rfl rfl ?_
  refine ab_if_eq (tgt := 79) (pc2 := 76) dX11_two_73 (by decide) rfl hf (fun c18 hf => ?_) (fun c18 hf => ?_)
  · refine ab_aload_n (x := _) (pc2 := 80) dX11_two_79 rfl rfl ?_
    refine ab_aload (x := _) (pc2 := 82) dX11_two_80 rfl rfl ?_
    refine ab_aload (x := _) (pc2 := 84) dX11_two_82 rfl rfl ?_
    refine ab_iload_n (pc2 := 85) dX11_two_84 rfl rfl ?_
    refine ab_iload (pc2 := 87) dX11_two_85 rfl rfl ?_
    obtain ⟨w19, ew19, hf⟩ := ab_bind hf
    refine ab_callV (pc2 := 90) (st := []) rfl ht0 (by decide) (m_X11_playTwo (d := (d + 0)) ht0 T_i6 T_i7 ew19) mf_X11_playTwo tw_300 tw_299 ts_X11_playTwo (Or.inl (by decide +kernel)) dX11_two_87 rfl (by omega) (Nat.le_refl _) (Nat.le_refl _) rfl (Nat.le_of_ble_eq_true rfl) (ab_kPi ?_)
    refine ab_istore (pc2 := 92) (lo2 := [some (va_rf _), none, none, some (.int _), some (.int _), some (.int _), some (va_rf _), some (va_rf _), some (.int _), some (.int _)]) dX11_two_90 rfl (by decide) rfl ?_
    refine ab_aload_n (x := _) (pc2 := 93) dX11_two_92 rfl rfl ?_
    refine ab_getR (pc2 := 96) rfl ht0 fa_X11_25 dX11_two_93 rfl (fun T20 => ?_)
    obtain ⟨q21, hq21, hf⟩ := ab_bind hf
    obtain ⟨w22, ew22, hf⟩ := ab_bind hf
    refine ab_callV (pc2 := 99) (st := []) hq21 (T20 q21 hq21) (by decide) (m_X10_standing (d := (d + 5)) (T20 q21 hq21) ew22) mf_X10_standing tw_201 tw_200 ts_X10_standing (Or.inl (by decide +kernel)) dX11_two_96 rfl (by omega) (Nat.le_refl _) (Nat.le_refl _) rfl (Nat.le_of_ble_eq_true rfl) (ab_kPi ?_)
    refine ab_iload (pc2 := 101) dX11_two_99 rfl rfl ?_
    refine ab_if_ne (tgt := 109) (pc2 := 104) dX11_two_101 (by decide) rfl hf (fun c23 hf => ?_) (fun c23 hf => ?_)
    · refine ab_iload (pc2 := 111) dX11_two_109 rfl rfl ?_
      refine ab_iconst (pc2 := 112) (v := (-1)) dX11_two_111 rfl ab_k_iconst_m1 ?_
      refine ab_ixor (pc2 := 113) dX11_two_112 rfl ?_
      refine ab_iand (pc2 := 114) dX11_two_113 rfl ?_
      obtain ⟨w24, ew24, hf⟩ := ab_bind hf
      refine ab_callS (pc2 := 117) (st := []) (m_J6_bitCount_0f7a4 (d := (d + 5)) ew24) mf_J6_bitCount_0f7a4 tw_202 tw_203 dX11_two_114 rfl (by omega) (Nat.le_refl _) (Nat.le_refl _) rfl (Nat.le_of_ble_eq_true rfl) (ab_kPi ?_)
      cases Option.some.inj hf
      exact ab_retI dX11_two_117 (Or.inl rfl) (Nat.le_refl _) (Nat.le_refl _) ⟨rfl, rfl⟩
    · refine ab_iload (pc2 := 106) dX11_two_104 rfl rfl ?_
      refine ab_goto (tgt := 113) dX11_two_106 (by decide) ?_
      refine ab_iand (pc2 := 114) dX11_two_113 rfl ?_
      obtain ⟨w25, ew25, hf⟩ := ab_bind hf
      refine ab_callS (pc2 := 117) (st := []) (m_J6_bitCount_0f7a4 (d := (d + 5)) ew25) mf_J6_bitCount_0f7a4 tw_202 tw_203 dX11_two_114 rfl (by omega) (Nat.le_refl _) (Nat.le_refl _) rfl (Nat.le_of_ble_eq_true rfl) (ab_kPi ?_)
      cases Option.some.inj hf
      exact ab_retI dX11_two_117 (Or.inl rfl) (Nat.le_refl _) (Nat.le_refl _) ⟨rfl, rfl⟩
  · refine ab_iload (pc2 := 78) dX11_two_76 rfl rfl ?_
    cases Option.some.inj hf
    exact ab_retI dX11_two_78 (Or.inl rfl) (Nat.le_refl _) (Nat.le_refl _) ⟨rfl, rfl⟩
set_option maxHeartbeats 4000000 in
set_option maxRecDepth 100000 in
theorem x_X11_two {d : Nat} {t0 : Nat} {i1 : Int32} {i2 : Int32} {i3 : Int32} {i4 : Int32} {i5 : Int32} {h : ab_HP} {r : (Int32 × ab_HP)} (ht0 : (ab_shp t0).1 = 0) (hf : f_X11_two t0 i1 i2 i3 i4 i5 h = some r) : ab_T mX11_two (d + 6) 0 0 0 0 0 [some (va_rf (some t0)), some (.int i1), some (.int i2), some (.int i3), some (.int i4), some (.int i5), none, none, none, none] [] h (ab_Pi r.1 r.2) := by
  unfold f_X11_two at hf
  refine ab_aload_n (x := _) (pc2 := 1) dX11_two_0 rfl rfl ?_
  refine ab_iload_n (pc2 := 2) dX11_two_1 rfl rfl ?_
  obtain ⟨w1, ew1, hf⟩ := ab_bind hf
  refine ab_callV (pc2 := 5) (st := []) rfl ht0 (by decide) (m_X11_shelfAt (d := (d + 5)) ht0 ew1) mf_X11_shelfAt tw_93 tw_92 ts_X11_shelfAt (Or.inl (by decide +kernel)) dX11_two_2 rfl (by omega) (Nat.le_refl _) (Nat.le_refl _) rfl (Nat.le_of_ble_eq_true rfl) (ab_kPr fun T2 => ?_)
  refine ab_astore (pc2 := 7) (lo2 := [some (va_rf _), some (.int _), some (.int _), some (.int _), some (.int _), some (.int _), some (va_rf _), none, none, none]) dX11_two_5 rfl (by decide) rfl ?_
  refine ab_aload_n (x := _) (pc2 := 8) dX11_two_7 rfl rfl ?_
  refine ab_iload_n (pc2 := 9) dX11_two_8 rfl rfl ?_
  obtain ⟨w3, ew3, hf⟩ := ab_bind hf
  refine ab_callV (pc2 := 12) (st := []) rfl ht0 (by decide) (m_X11_shelfAt (d := (d + 5)) ht0 ew3) mf_X11_shelfAt tw_93 tw_92 ts_X11_shelfAt (Or.inl (by decide +kernel)) dX11_two_9 rfl (by omega) (Nat.le_refl _) (Nat.le_refl _) rfl (Nat.le_of_ble_eq_true rfl) (ab_kPr fun T4 => ?_)
  refine ab_astore (pc2 := 14) (lo2 := [some (va_rf _), some (.int _), some (.int _), some (.int _), some (.int _), some (.int _), some (va_rf _), some (va_rf _), none, none]) dX11_two_12 rfl (by decide) (ab_st1_rf (j := 6) rfl rfl) ?_
  refine ab_aload (x := _) (pc2 := 16) dX11_two_14 rfl rfl ?_
  refine ab_nul (tgt := 50) (pc2 := 19) dX11_two_16 (by decide) rfl hf (fun hq5 hf => ?_) (fun q5 hq5 hf => ?_)
  · refine ab_iconst (pc2 := 51) (v := (-1)) dX11_two_50 rfl ab_k_iconst_m1 ?_
    cases Option.some.inj hf
    exact ab_retI dX11_two_51 (Or.inl rfl) (Nat.le_refl _) (Nat.le_refl _) ⟨rfl, rfl⟩
  · refine ab_aload (x := _) (pc2 := 21) dX11_two_19 rfl rfl ?_
    refine ab_nul (tgt := 50) (pc2 := 24) dX11_two_21 (by decide) rfl hf (fun hq6 hf => ?_) (fun q6 hq6 hf => ?_)
    · refine ab_iconst (pc2 := 51) (v := (-1)) dX11_two_50 rfl ab_k_iconst_m1 ?_
      cases Option.some.inj hf
      exact ab_retI dX11_two_51 (Or.inl rfl) (Nat.le_refl _) (Nat.le_refl _) ⟨rfl, rfl⟩
    · refine ab_iload_n (pc2 := 25) dX11_two_24 rfl rfl ?_
      obtain ⟨w7, ew7, hf⟩ := ab_bind hf
      refine ab_callS (pc2 := 28) (st := []) (m_X11_areNails (d := (d + 5)) ew7) mf_X11_areNails tw_190 tw_191 dX11_two_25 rfl (by omega) (Nat.le_refl _) (Nat.le_refl _) rfl (Nat.le_of_ble_eq_true rfl) (ab_kPb fun z8 => ?_)
      refine ab_if_eq (tgt := 50) (pc2 := 31) dX11_two_28 (by decide) rfl hf (fun c9 hf => ?_) (fun c9 hf => ?_)
      · refine ab_iconst (pc2 := 51) (v := (-1)) dX11_two_50 rfl ab_k_iconst_m1 ?_
        cases Option.some.inj hf
        exact ab_retI dX11_two_51 (Or.inl rfl) (Nat.le_refl _) (Nat.le_refl _) ⟨rfl, rfl⟩
      · refine ab_iload (pc2 := 33) dX11_two_31 rfl rfl ?_
        obtain ⟨w10, ew10, hf⟩ := ab_bind hf
        refine ab_callS (pc2 := 36) (st := []) (m_X11_areNails (d := (d + 5)) ew10) mf_X11_areNails tw_190 tw_191 dX11_two_33 rfl (by omega) (Nat.le_refl _) (Nat.le_refl _) rfl (Nat.le_of_ble_eq_true rfl) (ab_kPb fun z11 => ?_)
        refine ab_if_eq (tgt := 50) (pc2 := 39) dX11_two_36 (by decide) rfl hf (fun c12 hf => ?_) (fun c12 hf => ?_)
        · refine ab_iconst (pc2 := 51) (v := (-1)) dX11_two_50 rfl ab_k_iconst_m1 ?_
          cases Option.some.inj hf
          exact ab_retI dX11_two_51 (Or.inl rfl) (Nat.le_refl _) (Nat.le_refl _) ⟨rfl, rfl⟩
        · refine ab_iload (pc2 := 41) dX11_two_39 rfl rfl ?_
          refine ab_if_lt (tgt := 50) (pc2 := 44) dX11_two_41 (by decide) rfl hf (fun c13 hf => ?_) (fun c13 hf => ?_)
          · refine ab_iconst (pc2 := 51) (v := (-1)) dX11_two_50 rfl ab_k_iconst_m1 ?_
            cases Option.some.inj hf
            exact ab_retI dX11_two_51 (Or.inl rfl) (Nat.le_refl _) (Nat.le_refl _) ⟨rfl, rfl⟩
          · refine ab_iload (pc2 := 46) dX11_two_44 rfl rfl ?_
            refine ab_iconst (pc2 := 47) (v := 1) dX11_two_46 rfl ab_k_iconst_1 ?_
            refine ab_icmp_le (tgt := 52) (pc2 := 50) dX11_two_47 (by decide) rfl hf (fun c14 hf => ?_) (fun c14 hf => ?_)
            · refine ab_aload_n (x := _) (pc2 := 53) dX11_two_52 rfl rfl ?_
              refine ab_iload_n (pc2 := 54) dX11_two_53 rfl rfl ?_
              obtain ⟨w15, ew15, hf⟩ := ab_bind hf
              refine ab_callV (pc2 := 57) (st := []) rfl ht0 (by decide) (m_X11_listRefusal (d := (d + 3)) ht0 ew15) mf_X11_listRefusal tw_156 tw_155 ts_X11_listRefusal (Or.inl (by decide +kernel)) dX11_two_54 rfl (by omega) (Nat.le_refl _) (Nat.le_refl _) rfl (Nat.le_of_ble_eq_true rfl) (ab_kPi ?_)
              refine ab_istore (pc2 := 59) (lo2 := [some (va_rf _), some (.int _), some (.int _), some (.int _), some (.int _), some (.int _), some (va_rf _), some (va_rf _), some (.int _), none]) dX11_two_57 rfl (by decide) (ab_st1_rf (j := 7) rfl rfl) ?_
              refine ab_iload (pc2 := 61) dX11_two_59 rfl rfl ?_
              refine ab_if_ne (tgt := 71) (pc2 := 64) dX11_two_61 (by decide) rfl hf (fun c16 hf => ?_) (fun c16 hf => ?_)
              · exact ab_weak (x_X11_two_b71 ht0 T2 T4 hf) (ab_leS (ab_leN (ab_leN (ab_leS (ab_leS (ab_leS (ab_leS (ab_leS (ab_leS (ab_leN ab_le0))))))))))
              · refine ab_aload_n (x := _) (pc2 := 65) dX11_two_64 rfl rfl ?_
                refine ab_iload_n (pc2 := 66) dX11_two_65 rfl rfl ?_
                obtain ⟨w17, ew17, hf⟩ := ab_bind hf
                refine ab_callV (pc2 := 69) (st := []) rfl ht0 (by decide) (m_X11_listRefusal (d := (d + 3)) ht0 ew17) mf_X11_listRefusal tw_156 tw_155 ts_X11_listRefusal (Or.inl (by decide +kernel)) dX11_two_66 rfl (by omega) (Nat.le_refl _) (Nat.le_refl _) rfl (Nat.le_of_ble_eq_true rfl) (ab_kPi ?_)
                refine ab_istore (pc2 := 71) (lo2 := [some (va_rf _), some (.int _), some (.int _), some (.int _), some (.int _), some (.int _), some (va_rf _), some (va_rf _), some (.int _), none]) dX11_two_69 rfl (by decide) (ab_st1_rf (j := 7) rfl rfl) ?_
                exact ab_weak (x_X11_two_b71 ht0 T2 T4 hf) (ab_leS (ab_leN (ab_leN (ab_leS (ab_leS (ab_leS (ab_leS (ab_leS (ab_leS (ab_leN ab_le0))))))))))
            · refine ab_iconst (pc2 := 51) (v := (-1)) dX11_two_50 rfl ab_k_iconst_m1 ?_
              cases Option.some.inj hf
              exact ab_retI dX11_two_51 (Or.inl rfl) (Nat.le_refl _) (Nat.le_refl _) ⟨rfl, rfl⟩
set_option maxHeartbeats 4000000 in
set_option maxRecDepth 100000 in
theorem m_X11_two {d : Nat} {t0 : Nat} {i1 : Int32} {i2 : Int32} {i3 : Int32} {i4 : Int32} {i5 : Int32} {h : ab_HP} {r : (Int32 × ab_HP)} (ht0 : (ab_shp t0).1 = 0) (hf : f_X11_two t0 i1 i2 i3 i4 i5 h = some r) : ab_MET mX11_two (d + 6) 0 0 [va_rf (some t0), .int i1, .int i2, .int i3, .int i4, .int i5] h (ab_Pi r.1 r.2) := ab_met (by decide +kernel) (by decide +kernel) (Nat.le_of_ble_eq_true rfl) rfl (x_X11_two ht0 hf)
