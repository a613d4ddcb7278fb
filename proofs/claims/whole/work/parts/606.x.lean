set_option maxHeartbeats 4000000 in
set_option maxRecDepth 100000 in
theorem x_X11_even {d : Nat} {t0 : Nat} {i1 : Int32} {h : ab_HP} {r : (Int32 × ab_HP)} (ht0 : (ab_shp t0).1 = 0) (hf : f_X11_even t0 i1 h = some r) : ab_T mX11_even (d + 4) 0 0 0 0 0 [some (va_rf (some t0)), some (.int i1), none] [] h (ab_Pi r.1 r.2) := by
  unfold f_X11_even at hf
  refine ab_aload_n (x := _) (pc2 := 1) dX11_even_0 rfl rfl ?_
  refine ab_iload_n (pc2 := 2) dX11_even_1 rfl rfl ?_
  obtain ⟨w1, ew1, hf⟩ := ab_bind hf
  refine ab_callV (pc2 := 5) (st := []) rfl ht0 (by decide) (m_X11_takeList (d := (d + 0)) ht0 ew1) mf_X11_takeList tw_193 tw_192 ts_X11_takeList (Or.inl (by decide +kernel)) dX11_even_2 rfl (by omega) (Nat.le_refl _) (Nat.le_refl _) rfl (Nat.le_of_ble_eq_true rfl) (ab_kPi ?_)
  refine ab_istore_n (pc2 := 6) (lo2 := [some (va_rf _), some (.int _), some (.int _)]) dX11_even_5 rfl (by decide) rfl ?_
  refine ab_iload_n (pc2 := 7) dX11_even_6 rfl rfl ?_
  refine ab_if_eq (tgt := 12) (pc2 := 10) dX11_even_7 (by decide) rfl hf (fun c2 hf => ?_) (fun c2 hf => ?_)
  · refine ab_aload_n (x := _) (pc2 := 13) dX11_even_12 rfl rfl ?_
    refine ab_getR (pc2 := 16) rfl ht0 fa_X11_25 dX11_even_13 rfl (fun T3 => ?_)
    refine ab_aload_n (x := _) (pc2 := 17) dX11_even_16 rfl rfl ?_
    refine ab_getR (pc2 := 20) rfl ht0 fa_X11_10 dX11_even_17 rfl (fun T4 => ?_)
    obtain ⟨q5, hq5, hf⟩ := ab_bind hf
    refine ab_getI (pc2 := 23) hq5 (T4 q5 hq5) fa_X11_94 (by decide) dX11_even_20 rfl ?_
    refine ab_aload_n (x := _) (pc2 := 24) dX11_even_23 rfl rfl ?_
    refine ab_getR (pc2 := 27) rfl ht0 fa_X11_10 dX11_even_24 rfl (fun T6 => ?_)
    obtain ⟨q7, hq7, hf⟩ := ab_bind hf
    refine ab_getI (pc2 := 30) hq7 (T6 q7 hq7) fa_X11_97 (by decide) dX11_even_27 rfl ?_
    obtain ⟨q8, hq8, hf⟩ := ab_bind hf
    obtain ⟨w9, ew9, hf⟩ := ab_bind hf
    refine ab_callV (pc2 := 33) (st := []) hq8 (T3 q8 hq8) (by decide) (m_X10_begin (d := (d + 3)) (T3 q8 hq8) ew9) mf_X10_begin tw_233 tw_184 ts_X10_begin (Or.inl (by decide +kernel)) dX11_even_30 rfl (by omega) (Nat.le_refl _) (Nat.le_refl _) rfl (Nat.le_of_ble_eq_true rfl) (ab_kPv ?_)
    refine ab_aload_n (x := _) (pc2 := 34) dX11_even_33 rfl rfl ?_
    refine ab_getR (pc2 := 37) rfl ht0 fa_X11_25 dX11_even_34 rfl (fun T10 => ?_)
    refine ab_iconst (pc2 := 38) (v := 0) dX11_even_37 rfl ab_k_iconst_0 ?_
    obtain ⟨q11, hq11, hf⟩ := ab_bind hf
    obtain ⟨w12, ew12, hf⟩ := ab_bind hf
    refine ab_callV (pc2 := 41) (st := []) hq11 (T10 q11 hq11) (by decide) (m_X10_evenYear (d := (d + 0)) (T10 q11 hq11) ew12) mf_X10_evenYear tw_234 tw_186 ts_X10_evenYear (Or.inl (by decide +kernel)) dX11_even_38 rfl (by omega) (Nat.le_refl _) (Nat.le_refl _) rfl (Nat.le_of_ble_eq_true rfl) (ab_kPv ?_)
    refine ab_aload_n (x := _) (pc2 := 42) dX11_even_41 rfl rfl ?_
    refine ab_iconst (pc2 := 43) (v := 1) dX11_even_42 rfl ab_k_iconst_1 ?_
    obtain ⟨w13, ew13, hf⟩ := ab_bind hf
    refine ab_callV (pc2 := 46) (st := []) rfl ht0 (by decide) (m_X11_endYears (d := (d + 3)) ht0 ew13) mf_X11_endYears tw_199 tw_198 ts_X11_endYears (Or.inl (by decide +kernel)) dX11_even_43 rfl (by omega) (Nat.le_refl _) (Nat.le_refl _) rfl (Nat.le_of_ble_eq_true rfl) (ab_kPv ?_)
    refine ab_aload_n (x := _) (pc2 := 47) dX11_even_46 rfl rfl ?_
    refine ab_getR (pc2 := 50) rfl ht0 fa_X11_25 dX11_even_47 rfl (fun T14 => ?_)
    obtain ⟨q15, hq15, hf⟩ := ab_bind hf
    refine ab_getI (pc2 := 53) hq15 (T14 q15 hq15) fa_X11_152 (by decide) dX11_even_50 rfl ?_
    obtain ⟨w16, ew16, hf⟩ := ab_bind hf
    refine ab_callS (pc2 := 56) (st := []) (m_J6_bitCount_0f7a4 (d := (d + 3)) ew16) mf_J6_bitCount_0f7a4 tw_202 tw_203 dX11_even_53 rfl (by omega) (Nat.le_refl _) (Nat.le_refl _) rfl (Nat.le_of_ble_eq_true rfl) (ab_kPi ?_)
    cases Option.some.inj hf
    exact ab_retI dX11_even_56 (Or.inl rfl) (Nat.le_refl _) (Nat.le_refl _) ⟨rfl, rfl⟩
  · refine ab_iload_n (pc2 := 11) dX11_even_10 rfl rfl ?_
    cases Option.some.inj hf
    exact ab_retI dX11_even_11 (Or.inl rfl) (Nat.le_refl _) (Nat.le_refl _) ⟨rfl, rfl⟩
set_option maxHeartbeats 4000000 in
set_option maxRecDepth 100000 in
theorem m_X11_even {d : Nat} {t0 : Nat} {i1 : Int32} {h : ab_HP} {r : (Int32 × ab_HP)} (ht0 : (ab_shp t0).1 = 0) (hf : f_X11_even t0 i1 h = some r) : ab_MET mX11_even (d + 4) 0 0 [va_rf (some t0), .int i1] h (ab_Pi r.1 r.2) := ab_met (by decide +kernel) (by decide +kernel) (Nat.le_of_ble_eq_true rfl) rfl (x_X11_even ht0 hf)
set_option maxHeartbeats 4000000 in
set_option maxRecDepth 100000 in
theorem x_X11_lasts {d : Nat} {t0 : Nat} {i1 : Int32} {i2 : Int32} {i3 : Int32} {h : ab_HP} {r : (Int32 × ab_HP)} (ht0 : (ab_shp t0).1 = 0) (hf : f_X11_lasts t0 i1 i2 i3 h = some r) : ab_T mX11_lasts (d + 6) 0 0 0 0 0 [some (va_rf (some t0)), some (.int i1), some (.int i2), some (.int i3), none] [] h (ab_Pi r.1 r.2) := by
  unfold f_X11_lasts at hf
  refine ab_iload_n (pc2 := 1) dX11_lasts_0 rfl rfl ?_
  refine ab_if_lt (tgt := 10) (pc2 := 4) dX11_lasts_1 (by decide) rfl hf (fun c1 hf => ?_) (fun c1 hf => ?_)
  · refine ab_iconst (pc2 := 11) (v := (-1)) dX11_lasts_10 rfl ab_k_iconst_m1 ?_
    cases Option.some.inj hf
    exact ab_retI dX11_lasts_11 (Or.inl rfl) (Nat.le_refl _) (Nat.le_refl _) ⟨rfl, rfl⟩
  · refine ab_iload_n (pc2 := 5) dX11_lasts_4 rfl rfl ?_
    refine ab_bipush (pc2 := 7) (v := 10) dX11_lasts_5 rfl ab_k_bipush_10 ?_
    refine ab_icmp_lt (tgt := 12) (pc2 := 10) dX11_lasts_7 (by decide) rfl hf (fun c2 hf => ?_) (fun c2 hf => ?_)
    · refine ab_aload_n (x := _) (pc2 := 13) dX11_lasts_12 rfl rfl ?_
      refine ab_iload_n (pc2 := 14) dX11_lasts_13 rfl rfl ?_
      refine ab_iload_n (pc2 := 15) dX11_lasts_14 rfl rfl ?_
      obtain ⟨w3, ew3, hf⟩ := ab_bind hf
      refine ab_callV (pc2 := 18) (st := []) rfl ht0 (by decide) (m_X11_playList (d := (d + 0)) ht0 ew3) mf_X11_playList tw_197 tw_196 ts_X11_playList (Or.inl (by decide +kernel)) dX11_lasts_15 rfl (by omega) (Nat.le_refl _) (Nat.le_refl _) rfl (Nat.le_of_ble_eq_true rfl) (ab_kPi ?_)
      refine ab_istore (pc2 := 20) (lo2 := [some (va_rf _), some (.int _), some (.int _), some (.int _), some (.int _)]) dX11_lasts_18 rfl (by decide) rfl ?_
      refine ab_iload (pc2 := 22) dX11_lasts_20 rfl rfl ?_
      refine ab_if_eq (tgt := 30) (pc2 := 25) dX11_lasts_22 (by decide) rfl hf (fun c4 hf => ?_) (fun c4 hf => ?_)
      · refine ab_aload_n (x := _) (pc2 := 31) dX11_lasts_30 rfl rfl ?_
        refine ab_getR (pc2 := 34) rfl ht0 fa_X11_25 dX11_lasts_31 rfl (fun T5 => ?_)
        obtain ⟨q6, hq6, hf⟩ := ab_bind hf
        refine ab_getI (pc2 := 37) hq6 (T5 q6 hq6) fa_X11_155 (by decide) dX11_lasts_34 rfl ?_
        refine ab_iload_n (pc2 := 38) dX11_lasts_37 rfl rfl ?_
        refine ab_ishr (pc2 := 39) dX11_lasts_38 rfl ?_
        refine ab_iconst (pc2 := 40) (v := 1) dX11_lasts_39 rfl ab_k_iconst_1 ?_
        refine ab_iand (pc2 := 41) dX11_lasts_40 rfl ?_
        cases Option.some.inj hf
        exact ab_retI dX11_lasts_41 (Or.inl rfl) (Nat.le_refl _) (Nat.le_refl _) ⟨rfl, rfl⟩
      · refine ab_iload (pc2 := 27) dX11_lasts_25 rfl rfl ?_
        refine ab_goto (tgt := 41) dX11_lasts_27 (by decide) ?_
        cases Option.some.inj hf
        exact ab_retI dX11_lasts_41 (Or.inl rfl) (Nat.le_refl _) (Nat.le_refl _) ⟨rfl, rfl⟩
    · refine ab_iconst (pc2 := 11) (v := (-1)) dX11_lasts_10 rfl ab_k_iconst_m1 ?_
      cases Option.some.inj hf
      exact ab_retI dX11_lasts_11 (Or.inl rfl) (Nat.le_refl _) (Nat.le_refl _) ⟨rfl, rfl⟩
set_option maxHeartbeats 4000000 in
set_option maxRecDepth 100000 in
theorem m_X11_lasts {d : Nat} {t0 : Nat} {i1 : Int32} {i2 : Int32} {i3 : Int32} {h : ab_HP} {r : (Int32 × ab_HP)} (ht0 : (ab_shp t0).1 = 0) (hf : f_X11_lasts t0 i1 i2 i3 h = some r) : ab_MET mX11_lasts (d + 6) 0 0 [va_rf (some t0), .int i1, .int i2, .int i3] h (ab_Pi r.1 r.2) := ab_met (by decide +kernel) (by decide +kernel) (Nat.le_of_ble_eq_true rfl) rfl (x_X11_lasts ht0 hf)
set_option maxHeartbeats 4000000 in
set_option maxRecDepth 100000 in
theorem x_X11_why {d : Nat} {t0 : Nat} {i1 : Int32} {i2 : Int32} {i3 : Int32} {h : ab_HP} {r : (Int32 × ab_HP)} (ht0 : (ab_shp t0).1 = 0) (hf : f_X11_why t0 i1 i2 i3 h = some r) : ab_T mX11_why (d + 6) 0 0 0 0 0 [some (va_rf (some t0)), some (.int i1), some (.int i2), some (.int i3), none] [] h (ab_Pi r.1 r.2) := by
  unfold f_X11_why at hf
  refine ab_aload_n (x := _) (pc2 := 1) dX11_why_0 rfl rfl ?_
  refine ab_iload_n (pc2 := 2) dX11_why_1 rfl rfl ?_
  refine ab_iload_n (pc2 := 3) dX11_why_2 rfl rfl ?_
  obtain ⟨w1, ew1, hf⟩ := ab_bind hf
  refine ab_callV (pc2 := 6) (st := []) rfl ht0 (by decide) (m_X11_playList (d := (d + 0)) ht0 ew1) mf_X11_playList tw_197 tw_196 ts_X11_playList (Or.inl (by decide +kernel)) dX11_why_3 rfl (by omega) (Nat.le_refl _) (Nat.le_refl _) rfl (Nat.le_of_ble_eq_true rfl) (ab_kPi ?_)
  refine ab_istore (pc2 := 8) (lo2 := [some (va_rf _), some (.int _), some (.int _), some (.int _), some (.int _)]) dX11_why_6 rfl (by decide) rfl ?_
  refine ab_iload (pc2 := 10) dX11_why_8 rfl rfl ?_
  refine ab_if_eq (tgt := 16) (pc2 := 13) dX11_why_10 (by decide) rfl hf (fun c2 hf => ?_) (fun c2 hf => ?_)
  · refine ab_iload_n (pc2 := 17) dX11_why_16 rfl rfl ?_
    refine ab_if_lt (tgt := 31) (pc2 := 20) dX11_why_17 (by decide) rfl hf (fun c3 hf => ?_) (fun c3 hf => ?_)
    · refine ab_bipush (pc2 := 33) (v := (-13)) dX11_why_31 rfl ab_k_bipush_m13 ?_
      refine ab_goto (tgt := 44) dX11_why_33 (by decide) ?_
      cases Option.some.inj hf
      exact ab_retI dX11_why_44 (Or.inl rfl) (Nat.le_refl _) (Nat.le_refl _) ⟨rfl, rfl⟩
    · refine ab_iload_n (pc2 := 21) dX11_why_20 rfl rfl ?_
      refine ab_aload_n (x := _) (pc2 := 22) dX11_why_21 rfl rfl ?_
      refine ab_getR (pc2 := 25) rfl ht0 fa_X11_25 dX11_why_22 rfl (fun T4 => ?_)
      obtain ⟨q5, hq5, hf⟩ := ab_bind hf
      refine ab_getI (pc2 := 28) hq5 (T4 q5 hq5) fa_X11_156 (by decide) dX11_why_25 rfl ?_
      refine ab_icmp_lt (tgt := 36) (pc2 := 31) dX11_why_28 (by decide) rfl hf (fun c6 hf => ?_) (fun c6 hf => ?_)
      · refine ab_aload_n (x := _) (pc2 := 37) dX11_why_36 rfl rfl ?_
        refine ab_getR (pc2 := 40) rfl ht0 fa_X11_25 dX11_why_37 rfl (fun T7 => ?_)
        refine ab_iload_n (pc2 := 41) dX11_why_40 rfl rfl ?_
        obtain ⟨q8, hq8, hf⟩ := ab_bind hf
        obtain ⟨w9, ew9, hf⟩ := ab_bind hf
        refine ab_callV (pc2 := 44) (st := []) hq8 (T7 q8 hq8) (by decide) (m_X10_fate (d := (d + 4)) (T7 q8 hq8) ew9) mf_X10_fate tw_239 tw_238 ts_X10_fate (Or.inl (by decide +kernel)) dX11_why_41 rfl (by omega) (Nat.le_refl _) (Nat.le_refl _) rfl (Nat.le_of_ble_eq_true rfl) (ab_kPi ?_)
        cases Option.some.inj hf
        exact ab_retI dX11_why_44 (Or.inl rfl) (Nat.le_refl _) (Nat.le_refl _) ⟨rfl, rfl⟩
      · refine ab_bipush (pc2 := 33) (v := (-13)) dX11_why_31 rfl ab_k_bipush_m13 ?_
        refine ab_goto (tgt := 44) dX11_why_33 (by decide) ?_
        cases Option.some.inj hf
        exact ab_retI dX11_why_44 (Or.inl rfl) (Nat.le_refl _) (Nat.le_refl _) ⟨rfl, rfl⟩
  · refine ab_iload (pc2 := 15) dX11_why_13 rfl rfl ?_
    cases Option.some.inj hf
    exact ab_retI dX11_why_15 (Or.inl rfl) (Nat.le_refl _) (Nat.le_refl _) ⟨rfl, rfl⟩
set_option maxHeartbeats 4000000 in
set_option maxRecDepth 100000 in
theorem m_X11_why {d : Nat} {t0 : Nat} {i1 : Int32} {i2 : Int32} {i3 : Int32} {h : ab_HP} {r : (Int32 × ab_HP)} (ht0 : (ab_shp t0).1 = 0) (hf : f_X11_why t0 i1 i2 i3 h = some r) : ab_MET mX11_why (d + 6) 0 0 [va_rf (some t0), .int i1, .int i2, .int i3] h (ab_Pi r.1 r.2) := ab_met (by decide +kernel) (by decide +kernel) (Nat.le_of_ble_eq_true rfl) rfl (x_X11_why ht0 hf)
set_option maxHeartbeats 4000000 in
set_option maxRecDepth 100000 in
theorem x_X11_behind {d : Nat} {t0 : Nat} {i1 : Int32} {i2 : Int32} {i3 : Int32} {h : ab_HP} {r : (Int32 × ab_HP)} (ht0 : (ab_shp t0).1 = 0) (hf : f_X11_behind t0 i1 i2 i3 h = some r) : ab_T mX11_behind (d + 6) 0 0 0 0 0 [some (va_rf (some t0)), some (.int i1), some (.int i2), some (.int i3), none] [] h (ab_Pi r.1 r.2) := by
  unfold f_X11_behind at hf
  refine ab_iload_n (pc2 := 1) dX11_behind_0 rfl rfl ?_
  refine ab_if_lt (tgt := 9) (pc2 := 4) dX11_behind_1 (by decide) rfl hf (fun c1 hf => ?_) (fun c1 hf => ?_)
  · refine ab_iconst (pc2 := 10) (v := (-1)) dX11_behind_9 rfl ab_k_iconst_m1 ?_
    cases Option.some.inj hf
    exact ab_retI dX11_behind_10 (Or.inl rfl) (Nat.le_refl _) (Nat.le_refl _) ⟨rfl, rfl⟩
  · refine ab_iload_n (pc2 := 5) dX11_behind_4 rfl rfl ?_
    refine ab_iconst (pc2 := 6) (v := 3) dX11_behind_5 rfl ab_k_iconst_3 ?_
    refine ab_icmp_le (tgt := 11) (pc2 := 9) dX11_behind_6 (by decide) rfl hf (fun c2 hf => ?_) (fun c2 hf => ?_)
    · refine ab_aload_n (x := _) (pc2 := 12) dX11_behind_11 rfl rfl ?_
      refine ab_iload_n (pc2 := 13) dX11_behind_12 rfl rfl ?_
      refine ab_iload_n (pc2 := 14) dX11_behind_13 rfl rfl ?_
      obtain ⟨w3, ew3, hf⟩ := ab_bind hf
      refine ab_callV (pc2 := 17) (st := []) rfl ht0 (by decide) (m_X11_playList (d := (d + 0)) ht0 ew3) mf_X11_playList tw_197 tw_196 ts_X11_playList (Or.inl (by decide +kernel)) dX11_behind_14 rfl (by omega) (Nat.le_refl _) (Nat.le_refl _) rfl (Nat.le_of_ble_eq_true rfl) (ab_kPi ?_)
      refine ab_istore (pc2 := 19) (lo2 := [some (va_rf _), some (.int _), some (.int _), some (.int _), some (.int _)]) dX11_behind_17 rfl (by decide) rfl ?_
      refine ab_iload (pc2 := 21) dX11_behind_19 rfl rfl ?_
      refine ab_if_eq (tgt := 27) (pc2 := 24) dX11_behind_21 (by decide) rfl hf (fun c4 hf => ?_) (fun c4 hf => ?_)
      · refine ab_iload_n (pc2 := 28) dX11_behind_27 rfl rfl ?_
        rcases ab_cas hf with ⟨s5, hf⟩ | ⟨s5, hf⟩
        · refine ab_tswK (tgt := 56) (off := 28) dX11_behind_28 s5 (by decide) (by decide) (by decide +kernel) (by decide) ?_
          refine ab_aload_n (x := _) (pc2 := 57) dX11_behind_56 rfl rfl ?_
          refine ab_getR (pc2 := 60) rfl ht0 fa_X11_25 dX11_behind_57 rfl (fun T6 => ?_)
          obtain ⟨q7, hq7, hf⟩ := ab_bind hf
          refine ab_getI (pc2 := 63) hq7 (T6 q7 hq7) fa_X11_155 (by decide) dX11_behind_60 rfl ?_
          cases Option.some.inj hf
          exact ab_retI dX11_behind_63 (Or.inl rfl) (Nat.le_refl _) (Nat.le_refl _) ⟨rfl, rfl⟩
        rcases ab_cas hf with ⟨s8, hf⟩ | ⟨s8, hf⟩
        · refine ab_tswK (tgt := 64) (off := 36) dX11_behind_28 s8 (by decide) (by decide) (by decide +kernel) (by decide) ?_
          refine ab_aload_n (x := _) (pc2 := 65) dX11_behind_64 rfl rfl ?_
          refine ab_getR (pc2 := 68) rfl ht0 fa_X11_25 dX11_behind_65 rfl (fun T9 => ?_)
          obtain ⟨q10, hq10, hf⟩ := ab_bind hf
          refine ab_getI (pc2 := 71) hq10 (T9 q10 hq10) fa_X11_162 (by decide) dX11_behind_68 rfl ?_
          cases Option.some.inj hf
          exact ab_retI dX11_behind_71 (Or.inl rfl) (Nat.le_refl _) (Nat.le_refl _) ⟨rfl, rfl⟩
        rcases ab_cas hf with ⟨s11, hf⟩ | ⟨s11, hf⟩
        · refine ab_tswK (tgt := 72) (off := 44) dX11_behind_28 s11 (by decide) (by decide) (by decide +kernel) (by decide) ?_
          refine ab_aload_n (x := _) (pc2 := 73) dX11_behind_72 rfl rfl ?_
          refine ab_getR (pc2 := 76) rfl ht0 fa_X11_25 dX11_behind_73 rfl (fun T12 => ?_)
          obtain ⟨q13, hq13, hf⟩ := ab_bind hf
          refine ab_getI (pc2 := 79) hq13 (T12 q13 hq13) fa_X11_163 (by decide) dX11_behind_76 rfl ?_
          obtain ⟨w14, ew14, hf⟩ := ab_bind hf
          refine ab_callS (pc2 := 82) (st := []) (m_J6_bitCount_0f7a4 (d := (d + 5)) ew14) mf_J6_bitCount_0f7a4 tw_202 tw_203 dX11_behind_79 rfl (by omega) (Nat.le_refl _) (Nat.le_refl _) rfl (Nat.le_of_ble_eq_true rfl) (ab_kPi ?_)
          cases Option.some.inj hf
          exact ab_retI dX11_behind_82 (Or.inl rfl) (Nat.le_refl _) (Nat.le_refl _) ⟨rfl, rfl⟩
        have s5n := lv_neT s5 (by decide : (0 : Int32).toInt = 0)
        have s8n := lv_neT s8 (by decide : (1 : Int32).toInt = 1)
        have s11n := lv_neT s11 (by decide : (2 : Int32).toInt = 2)
        refine ab_tswOut (tgt := 83) dX11_behind_28 (by omega) (by decide) ?_
        refine ab_aload_n (x := _) (pc2 := 84) dX11_behind_83 rfl rfl ?_
        refine ab_getR (pc2 := 87) rfl ht0 fa_X11_25 dX11_behind_84 rfl (fun T15 => ?_)
        obtain ⟨q16, hq16, hf⟩ := ab_bind hf
        refine ab_getI (pc2 := 90) hq16 (T15 q16 hq16) fa_X11_166 (by decide) dX11_behind_87 rfl ?_
        cases Option.some.inj hf
        exact ab_retI dX11_behind_90 (Or.inl rfl) (Nat.le_refl _) (Nat.le_refl _) ⟨rfl, rfl⟩
      · refine ab_iload (pc2 := 26) dX11_behind_24 rfl rfl ?_
        cases Option.some.inj hf
        exact ab_retI dX11_behind_26 (Or.inl rfl) (Nat.le_refl _) (Nat.le_refl _) ⟨rfl, rfl⟩
    · refine ab_iconst (pc2 := 10) (v := (-1)) dX11_behind_9 rfl ab_k_iconst_m1 ?_
      cases Option.some.inj hf
      exact ab_retI dX11_behind_10 (Or.inl rfl) (Nat.le_refl _) (Nat.le_refl _) ⟨rfl, rfl⟩
set_option maxHeartbeats 4000000 in
set_option maxRecDepth 100000 in
theorem m_X11_behind {d : Nat} {t0 : Nat} {i1 : Int32} {i2 : Int32} {i3 : Int32} {h : ab_HP} {r : (Int32 × ab_HP)} (ht0 : (ab_shp t0).1 = 0) (hf : f_X11_behind t0 i1 i2 i3 h = some r) : ab_MET mX11_behind (d + 6) 0 0 [va_rf (some t0), .int i1, .int i2, .int i3] h (ab_Pi r.1 r.2) := ab_met (by decide +kernel) (by decide +kernel) (Nat.le_of_ble_eq_true rfl) rfl (x_X11_behind ht0 hf)
set_option maxHeartbeats 4000000 in
set_option maxRecDepth 100000 in
theorem x_X11_areMarks {d : Nat} {i0 : Int32} {h : ab_HP} {r : Int32}  (hf : f_X11_areMarks i0 h = some r) : ab_T mX11_areMarks (d + 0) 0 0 0 0 0 [some (.int i0)] [] h (ab_Pb r h) := by
  unfold f_X11_areMarks at hf
  refine ab_iload_n (pc2 := 1) dX11_areMarks_0 rfl rfl ?_
  refine ab_if_lt (tgt := 15) (pc2 := 4) dX11_areMarks_1 (by decide) rfl hf (fun c1 hf => ?_) (fun c1 hf => ?_)
  · refine ab_iconst (pc2 := 16) (v := 0) dX11_areMarks_15 rfl ab_k_iconst_0 ?_
    cases Option.some.inj hf
    exact ab_retI dX11_areMarks_16 (Or.inr ⟨rfl, (Or.inl rfl)⟩) (Nat.le_refl _) (Nat.le_refl _) ⟨rfl, rfl, (Or.inl rfl)⟩
  · refine ab_iload_n (pc2 := 5) dX11_areMarks_4 rfl rfl ?_
    refine ab_sipush (pc2 := 8) (v := 1023) dX11_areMarks_5 rfl ab_k_sipush_1023 ?_
    refine ab_icmp_gt (tgt := 15) (pc2 := 11) dX11_areMarks_8 (by decide) rfl hf (fun c2 hf => ?_) (fun c2 hf => ?_)
    · refine ab_iconst (pc2 := 16) (v := 0) dX11_areMarks_15 rfl ab_k_iconst_0 ?_
      cases Option.some.inj hf
      exact ab_retI dX11_areMarks_16 (Or.inr ⟨rfl, (Or.inl rfl)⟩) (Nat.le_refl _) (Nat.le_refl _) ⟨rfl, rfl, (Or.inl rfl)⟩
    · refine ab_iconst (pc2 := 12) (v := 1) dX11_areMarks_11 rfl ab_k_iconst_1 ?_
      refine ab_goto (tgt := 16) dX11_areMarks_12 (by decide) ?_
      cases Option.some.inj hf
      exact ab_retI dX11_areMarks_16 (Or.inr ⟨rfl, (Or.inr rfl)⟩) (Nat.le_refl _) (Nat.le_refl _) ⟨rfl, rfl, (Or.inr rfl)⟩
set_option maxHeartbeats 4000000 in
set_option maxRecDepth 100000 in
theorem m_X11_areMarks {d : Nat} {i0 : Int32} {h : ab_HP} {r : Int32}  (hf : f_X11_areMarks i0 h = some r) : ab_MET mX11_areMarks (d + 0) 0 0 [.int i0] h (ab_Pb r h) := ab_met (by decide +kernel) (by decide +kernel) (Nat.le_of_ble_eq_true rfl) rfl (x_X11_areMarks  hf)
set_option maxHeartbeats 4000000 in
set_option maxRecDepth 100000 in
theorem x_X11_least {d : Nat} {t0 : Nat} {i1 : Int32} {i2 : Int32} {i3 : Int32} {h : ab_HP} {r : (Int32 × ab_HP)} (ht0 : (ab_shp t0).1 = 0) (hf : f_X11_least t0 i1 i2 i3 h = some r) : ab_T mX11_least (d + 6) 0 0 0 0 0 [some (va_rf (some t0)), some (.int i1), some (.int i2), some (.int i3), none, none] [] h (ab_Pi r.1 r.2) := by
  unfold f_X11_least at hf
  refine ab_iload_n (pc2 := 1) dX11_least_0 rfl rfl ?_
  obtain ⟨w1, ew1, hf⟩ := ab_bind hf
  refine ab_callS (pc2 := 4) (st := []) (m_X11_areMarks (d := (d + 5)) ew1) mf_X11_areMarks tw_242 tw_243 dX11_least_1 rfl (by omega) (Nat.le_refl _) (Nat.le_refl _) rfl (Nat.le_of_ble_eq_true rfl) (ab_kPb fun z2 => ?_)
  refine ab_if_eq (tgt := 16) (pc2 := 7) dX11_least_4 (by decide) rfl hf (fun c3 hf => ?_) (fun c3 hf => ?_)
  · refine ab_iconst (pc2 := 17) (v := (-1)) dX11_least_16 rfl ab_k_iconst_m1 ?_
    cases Option.some.inj hf
    exact ab_retI dX11_least_17 (Or.inl rfl) (Nat.le_refl _) (Nat.le_refl _) ⟨rfl, rfl⟩
  · refine ab_iload_n (pc2 := 8) dX11_least_7 rfl rfl ?_
    refine ab_if_lt (tgt := 16) (pc2 := 11) dX11_least_8 (by decide) rfl hf (fun c4 hf => ?_) (fun c4 hf => ?_)
    · refine ab_iconst (pc2 := 17) (v := (-1)) dX11_least_16 rfl ab_k_iconst_m1 ?_
      cases Option.some.inj hf
      exact ab_retI dX11_least_17 (Or.inl rfl) (Nat.le_refl _) (Nat.le_refl _) ⟨rfl, rfl⟩
    · refine ab_iload_n (pc2 := 12) dX11_least_11 rfl rfl ?_
      refine ab_iconst (pc2 := 13) (v := 2) dX11_least_12 rfl ab_k_iconst_2 ?_
      refine ab_icmp_le (tgt := 18) (pc2 := 16) dX11_least_13 (by decide) rfl hf (fun c5 hf => ?_) (fun c5 hf => ?_)
      · refine ab_aload_n (x := _) (pc2 := 19) dX11_least_18 rfl rfl ?_
        refine ab_iload_n (pc2 := 20) dX11_least_19 rfl rfl ?_
        obtain ⟨w6, ew6, hf⟩ := ab_bind hf
        refine ab_callV (pc2 := 23) (st := []) rfl ht0 (by decide) (m_X11_takeList (d := (d + 2)) ht0 ew6) mf_X11_takeList tw_193 tw_192 ts_X11_takeList (Or.inl (by decide +kernel)) dX11_least_20 rfl (by omega) (Nat.le_refl _) (Nat.le_refl _) rfl (Nat.le_of_ble_eq_true rfl) (ab_kPi ?_)
        refine ab_istore (pc2 := 25) (lo2 := [some (va_rf _), some (.int _), some (.int _), some (.int _), some (.int _), none]) dX11_least_23 rfl (by decide) rfl ?_
        refine ab_iload (pc2 := 27) dX11_least_25 rfl rfl ?_
        refine ab_if_eq (tgt := 33) (pc2 := 30) dX11_least_27 (by decide) rfl hf (fun c7 hf => ?_) (fun c7 hf => ?_)
        · refine ab_aload_n (x := _) (pc2 := 34) dX11_least_33 rfl rfl ?_
          refine ab_getR (pc2 := 37) rfl ht0 fa_X11_25 dX11_least_34 rfl (fun T8 => ?_)
          refine ab_iload_n (pc2 := 38) dX11_least_37 rfl rfl ?_
          obtain ⟨q9, hq9, hf⟩ := ab_bind hf
          obtain ⟨w10, ew10, hf⟩ := ab_bind hf
          refine ab_callV (pc2 := 41) (st := []) hq9 (T8 q9 hq9) (by decide) (m_X10_leastNails (d := (d + 0)) (T8 q9 hq9) ew10) mf_X10_leastNails tw_245 tw_244 ts_X10_leastNails (Or.inl (by decide +kernel)) dX11_least_38 rfl (by omega) (Nat.le_refl _) (Nat.le_refl _) rfl (Nat.le_of_ble_eq_true rfl) (ab_kPi ?_)
          refine ab_istore (pc2 := 43) (lo2 := [some (va_rf _), some (.int _), some (.int _), some (.int _), some (.int _), some (.int _)]) dX11_least_41 rfl (by decide) rfl ?_
          refine ab_iload (pc2 := 45) dX11_least_43 rfl rfl ?_
          refine ab_if_ge (tgt := 51) (pc2 := 48) dX11_least_45 (by decide) rfl hf (fun c11 hf => ?_) (fun c11 hf => ?_)
          · refine ab_iload_n (pc2 := 52) dX11_least_51 rfl rfl ?_
            refine ab_if_ne (tgt := 61) (pc2 := 55) dX11_least_52 (by decide) rfl hf (fun c12 hf => ?_) (fun c12 hf => ?_)
            · refine ab_iload_n (pc2 := 62) dX11_least_61 rfl rfl ?_
              refine ab_iconst (pc2 := 63) (v := 2) dX11_least_62 rfl ab_k_iconst_2 ?_
              refine ab_icmp_ne (tgt := 69) (pc2 := 66) dX11_least_63 (by decide) rfl hf (fun c13 hf => ?_) (fun c13 hf => ?_)
              · refine ab_aload_n (x := _) (pc2 := 70) dX11_least_69 rfl rfl ?_
                refine ab_getR (pc2 := 73) rfl ht0 fa_X11_25 dX11_least_70 rfl (fun T14 => ?_)
                refine ab_iload (pc2 := 75) dX11_least_73 rfl rfl ?_
                obtain ⟨q15, hq15, hf⟩ := ab_bind hf
                obtain ⟨w16, ew16, hf⟩ := ab_bind hf
                refine ab_callV (pc2 := 78) (st := []) hq15 (T14 q15 hq15) (by decide) (m_X10_play (d := (d + 1)) (T14 q15 hq15) ew16) mf_X10_play tw_195 tw_194 ts_X10_play (Or.inl (by decide +kernel)) dX11_least_75 rfl (by omega) (Nat.le_refl _) (Nat.le_refl _) rfl (Nat.le_of_ble_eq_true rfl) (ab_kPv ?_)
                refine ab_aload_n (x := _) (pc2 := 79) dX11_least_78 rfl rfl ?_
                refine ab_getR (pc2 := 82) rfl ht0 fa_X11_25 dX11_least_79 rfl (fun T17 => ?_)
                obtain ⟨q18, hq18, hf⟩ := ab_bind hf
                refine ab_getI (pc2 := 85) hq18 (T17 q18 hq18) fa_X11_166 (by decide) dX11_least_82 rfl ?_
                cases Option.some.inj hf
                exact ab_retI dX11_least_85 (Or.inl rfl) (Nat.le_refl _) (Nat.le_refl _) ⟨rfl, rfl⟩
              · refine ab_iload (pc2 := 68) dX11_least_66 rfl rfl ?_
                cases Option.some.inj hf
                exact ab_retI dX11_least_68 (Or.inl rfl) (Nat.le_refl _) (Nat.le_refl _) ⟨rfl, rfl⟩
            · refine ab_iload (pc2 := 57) dX11_least_55 rfl rfl ?_
              obtain ⟨w19, ew19, hf⟩ := ab_bind hf
              refine ab_callS (pc2 := 60) (st := []) (m_J6_bitCount_0f7a4 (d := (d + 5)) ew19) mf_J6_bitCount_0f7a4 tw_202 tw_203 dX11_least_57 rfl (by omega) (Nat.le_refl _) (Nat.le_refl _) rfl (Nat.le_of_ble_eq_true rfl) (ab_kPi ?_)
              cases Option.some.inj hf
              exact ab_retI dX11_least_60 (Or.inl rfl) (Nat.le_refl _) (Nat.le_refl _) ⟨rfl, rfl⟩
          · refine ab_bipush (pc2 := 50) (v := (-4)) dX11_least_48 rfl ab_k_bipush_m4 ?_
            cases Option.some.inj hf
            exact ab_retI dX11_least_50 (Or.inl rfl) (Nat.le_refl _) (Nat.le_refl _) ⟨rfl, rfl⟩
        · refine ab_iload (pc2 := 32) dX11_least_30 rfl rfl ?_
          cases Option.some.inj hf
          exact ab_retI dX11_least_32 (Or.inl rfl) (Nat.le_refl _) (Nat.le_refl _) ⟨rfl, rfl⟩
      · refine ab_iconst (pc2 := 17) (v := (-1)) dX11_least_16 rfl ab_k_iconst_m1 ?_
        cases Option.some.inj hf
        exact ab_retI dX11_least_17 (Or.inl rfl) (Nat.le_refl _) (Nat.le_refl _) ⟨rfl, rfl⟩
set_option maxHeartbeats 4000000 in
set_option maxRecDepth 100000 in
theorem m_X11_least {d : Nat} {t0 : Nat} {i1 : Int32} {i2 : Int32} {i3 : Int32} {h : ab_HP} {r : (Int32 × ab_HP)} (ht0 : (ab_shp t0).1 = 0) (hf : f_X11_least t0 i1 i2 i3 h = some r) : ab_MET mX11_least (d + 6) 0 0 [va_rf (some t0), .int i1, .int i2, .int i3] h (ab_Pi r.1 r.2) := ab_met (by decide +kernel) (by decide +kernel) (Nat.le_of_ble_eq_true rfl) rfl (x_X11_least ht0 hf)
set_option maxHeartbeats 4000000 in
set_option maxRecDepth 100000 in
theorem x_X11_takeOrder_l13 {d : Nat} {t0 : Nat} {r : ab_HP} (ht0 : (ab_shp t0).1 = 0) : ∀ (n : Nat) (i1 : Option Nat) (i2 : Int32) (h : ab_HP), (∀ z, i1 = some z → (ab_shp z).1 = 3) → f_X11_takeOrder_l13 t0 n i1 i2 h = some r → ab_T mX11_takeOrder (d + 2) 0 0 0 0 13 [some (va_rf (some t0)), some (va_rf i1), some (.int i2)] [] h (ab_Pv r) := by
  intro n
  induction n with
  | zero =>
    intro i1 i2 h T_i1 hf
    rw [f_X11_takeOrder_l13] at hf
    cases hf
  | succ n ih =>
    intro i1 i2 h T_i1 hf
    rw [f_X11_takeOrder_l13] at hf
    refine ab_iload_n (pc2 := 14) dX11_takeOrder_13 rfl rfl ?_
    refine ab_aload_n (x := _) (pc2 := 15) dX11_takeOrder_14 rfl rfl ?_
    obtain ⟨q5, hq5, hf⟩ := ab_bind hf
    refine ab_getI (pc2 := 18) hq5 (T_i1 q5 hq5) fa_X11_182 (by decide) dX11_takeOrder_15 rfl ?_
    refine ab_icmp_ge (tgt := 53) (pc2 := 21) dX11_takeOrder_18 (by decide) rfl hf (fun c6 hf => ?_) (fun c6 hf => ?_)
    · cases Option.some.inj hf
      exact ab_retV dX11_takeOrder_53 rfl (Nat.le_refl _) (Nat.le_refl _) ⟨rfl, rfl⟩
    · refine ab_aload_n (x := _) (pc2 := 22) dX11_takeOrder_21 rfl rfl ?_
      refine ab_getR (pc2 := 25) rfl ht0 fa_X11_25 dX11_takeOrder_22 rfl (fun T7 => ?_)
      refine ab_aload_n (x := _) (pc2 := 26) dX11_takeOrder_25 rfl rfl ?_
      refine ab_getR (pc2 := 29) rfl ht0 fa_X11_10 dX11_takeOrder_26 rfl (fun T8 => ?_)
      refine ab_aload_n (x := _) (pc2 := 30) dX11_takeOrder_29 rfl rfl ?_
      refine ab_aload_n (x := _) (pc2 := 31) dX11_takeOrder_30 rfl rfl ?_
      refine ab_getR (pc2 := 34) rfl ht0 fa_X11_35 dX11_takeOrder_31 rfl (fun T9 => ?_)
      refine ab_iload_n (pc2 := 35) dX11_takeOrder_34 rfl rfl ?_
      obtain ⟨w10, ew10, hf⟩ := ab_bind hf
      refine ab_callS (pc2 := 38) (st := [_, _, _]) (m_X11_at (d := (d + 1)) T9 ew10) mf_X11_at tw_251 tw_23 dX11_takeOrder_35 rfl (by omega) (Nat.le_refl _) (Nat.le_refl _) rfl (Nat.le_of_ble_eq_true rfl) (ab_kPi ?_)
      obtain ⟨w11, ew11, hf⟩ := ab_bind hf
      refine ab_callV (pc2 := 41) (st := [_, _]) hq5 (T_i1 q5 hq5) (by decide) (m_X6_read (d := (d + 0)) (T_i1 q5 hq5) ew11) mf_X6_read tw_154 tw_24 ts_X6_read (Or.inl (by decide +kernel)) dX11_takeOrder_38 rfl (by omega) (Nat.le_refl _) (Nat.le_refl _) rfl (Nat.le_of_ble_eq_true rfl) (ab_kPi ?_)
      obtain ⟨q12, hq12, hf⟩ := ab_bind hf
      obtain ⟨w13, ew13, hf⟩ := ab_bind hf
      refine ab_callV (pc2 := 44) (st := [_]) hq12 (T8 q12 hq12) (by decide) (m_X9_deedAt (d := (d + 1)) (T8 q12 hq12) ew13) mf_X9_deedAt tw_127 tw_18 ts_X9_deedAt (Or.inl (by decide +kernel)) dX11_takeOrder_41 rfl (by omega) (Nat.le_refl _) (Nat.le_refl _) rfl (Nat.le_of_ble_eq_true rfl) (ab_kPr fun T14 => ?_)
      obtain ⟨q15, hq15, hf⟩ := ab_bind hf
      obtain ⟨w16, ew16, hf⟩ := ab_bind hf
      refine ab_callV (pc2 := 47) (st := []) hq15 (T7 q15 hq15) (by decide) (m_X10_add (d := (d + 1)) (T7 q15 hq15) T14 ew16) mf_X10_add tw_160 tw_159 ts_X10_add (Or.inl (by decide +kernel)) dX11_takeOrder_44 rfl (by omega) (Nat.le_refl _) (Nat.le_refl _) rfl (Nat.le_of_ble_eq_true rfl) (ab_kPv ?_)
      refine ab_iinc (pc2 := 50) (v := _ + 1) (lo2 := [some (va_rf _), some (va_rf _), some (.int _)]) dX11_takeOrder_47 rfl rfl rfl (by decide) (ab_st1_rf (j := 1) rfl rfl) ?_
      refine ab_goto (tgt := 13) dX11_takeOrder_50 (by decide) ?_
      exact ab_weak (ih _ _ _ T_i1 hf) (ab_leS (ab_leS (ab_leS ab_le0)))
set_option maxHeartbeats 4000000 in
set_option maxRecDepth 100000 in
theorem x_X11_takeOrder {d : Nat} {t0 : Nat} {i1 : Option Nat} {h : ab_HP} {r : ab_HP} (ht0 : (ab_shp t0).1 = 0) (T_i1 : ∀ z, i1 = some z → (ab_shp z).1 = 3) (hf : f_X11_takeOrder t0 i1 h = some r) : ab_T mX11_takeOrder (d + 2) 0 0 0 0 0 [some (va_rf (some t0)), some (va_rf i1), none] [] h (ab_Pv r) := by
  unfold f_X11_takeOrder at hf
  refine ab_aload_n (x := _) (pc2 := 1) dX11_takeOrder_0 rfl rfl ?_
  refine ab_getR (pc2 := 4) rfl ht0 fa_X11_25 dX11_takeOrder_1 rfl (fun T1 => ?_)
  refine ab_aload_n (x := _) (pc2 := 5) dX11_takeOrder_4 rfl rfl ?_
  refine ab_getR (pc2 := 8) rfl ht0 fa_X11_10 dX11_takeOrder_5 rfl (fun T2 => ?_)
  obtain ⟨q3, hq3, hf⟩ := ab_bind hf
  obtain ⟨w4, ew4, hf⟩ := ab_bind hf
  refine ab_callV (pc2 := 11) (st := []) hq3 (T1 q3 hq3) (by decide) (m_X10_open (d := (d + 1)) (T1 q3 hq3) T2 ew4) mf_X10_open tw_158 tw_157 ts_X10_open (Or.inl (by decide +kernel)) dX11_takeOrder_8 rfl (by omega) (Nat.le_refl _) (Nat.le_refl _) rfl (Nat.le_of_ble_eq_true rfl) (ab_kPv ?_)
  refine ab_iconst (pc2 := 12) (v := 0) dX11_takeOrder_11 rfl ab_k_iconst_0 ?_
  refine ab_istore_n (pc2 := 13) (lo2 := [some (va_rf _), some (va_rf _), some (.int _)]) dX11_takeOrder_12 rfl (by decide) (ab_st1_rf (j := 1) rfl rfl) ?_
  exact ab_weak (x_X11_takeOrder_l13 ht0 _ _ _ _ T_i1 hf) (ab_leS (ab_leS (ab_leS ab_le0)))
set_option maxHeartbeats 4000000 in
set_option maxRecDepth 100000 in
theorem m_X11_takeOrder {d : Nat} {t0 : Nat} {i1 : Option Nat} {h : ab_HP} {r : ab_HP} (ht0 : (ab_shp t0).1 = 0) (T_i1 : ∀ z, i1 = some z → (ab_shp z).1 = 3) (hf : f_X11_takeOrder t0 i1 h = some r) : ab_MET mX11_takeOrder (d + 2) 0 0 [va_rf (some t0), va_rf i1] h (ab_Pv r) := ab_met (by decide +kernel) (by decide +kernel) (by simp [ab_lo, ab_rf1, ab_cI, ab_cJ]) (by simp [ab_lo0, ab_lo, ab_rf1, ab_cI, ab_cJ, List.replicate]) (x_X11_takeOrder ht0 T_i1 hf)
set_option maxHeartbeats 4000000 in
set_option maxRecDepth 100000 in
theorem x_X11_orderDigits_l6 {d : Nat} {t0 : Nat} {r : Int32} (ht0 : (ab_shp t0).1 = 0) : ∀ (n : Nat) (i2 : Int32) (i3 : Int32) (h : ab_HP), f_X11_orderDigits_l6 t0 n i2 i3 h = some r → ab_T mX11_orderDigits (d + 1) 0 0 0 0 6 [some (va_rf (some t0)), none, some (.int i2), some (.int i3)] [] h (ab_Pi r h) := by
  intro n
  induction n with
  | zero =>
    intro i2 i3 h hf
    rw [f_X11_orderDigits_l6] at hf
    cases hf
  | succ n ih =>
    intro i2 i3 h hf
    rw [f_X11_orderDigits_l6] at hf
    refine ab_iload_n (pc2 := 7) dX11_orderDigits_6 rfl rfl ?_
    refine ab_if_lt (tgt := 30) (pc2 := 10) dX11_orderDigits_7 (by decide) rfl hf (fun c1 hf => ?_) (fun c1 hf => ?_)
    · refine ab_iload_n (pc2 := 31) dX11_orderDigits_30 rfl rfl ?_
      cases Option.some.inj hf
      exact ab_retI dX11_orderDigits_31 (Or.inl rfl) (Nat.le_refl _) (Nat.le_refl _) ⟨rfl, rfl⟩
    · refine ab_bipush (pc2 := 12) (v := 10) dX11_orderDigits_10 rfl ab_k_bipush_10 ?_
      refine ab_iload_n (pc2 := 13) dX11_orderDigits_12 rfl rfl ?_
      refine ab_imul (pc2 := 14) dX11_orderDigits_13 rfl ?_
      refine ab_aload_n (x := _) (pc2 := 15) dX11_orderDigits_14 rfl rfl ?_
      refine ab_getR (pc2 := 18) rfl ht0 fa_X11_35 dX11_orderDigits_15 rfl (fun T2 => ?_)
      refine ab_iload_n (pc2 := 19) dX11_orderDigits_18 rfl rfl ?_
      obtain ⟨w3, ew3, hf⟩ := ab_bind hf
      refine ab_callS (pc2 := 22) (st := [_]) (m_X11_at (d := (d + 0)) T2 ew3) mf_X11_at tw_251 tw_23 dX11_orderDigits_19 rfl (by omega) (Nat.le_refl _) (Nat.le_refl _) rfl (Nat.le_of_ble_eq_true rfl) (ab_kPi ?_)
      refine ab_iadd (pc2 := 23) dX11_orderDigits_22 rfl ?_
      refine ab_istore_n (pc2 := 24) (lo2 := [some (va_rf _), none, some (.int _), some (.int _)]) dX11_orderDigits_23 rfl (by decide) rfl ?_
      refine ab_iinc (pc2 := 27) (v := _ + (-1)) (lo2 := [some (va_rf _), none, some (.int _), some (.int _)]) dX11_orderDigits_24 rfl rfl rfl (by decide) rfl ?_
      refine ab_goto (tgt := 6) dX11_orderDigits_27 (by decide) ?_
      exact ab_weak (ih _ _ _ hf) (ab_leS (ab_leN (ab_leS (ab_leS ab_le0))))
set_option maxHeartbeats 4000000 in
set_option maxRecDepth 100000 in
theorem x_X11_orderDigits {d : Nat} {t0 : Nat} {i1 : Int32} {h : ab_HP} {r : Int32} (ht0 : (ab_shp t0).1 = 0) (hf : f_X11_orderDigits t0 i1 h = some r) : ab_T mX11_orderDigits (d + 1) 0 0 0 0 0 [some (va_rf (some t0)), some (.int i1), none, none] [] h (ab_Pi r h) := by
  unfold f_X11_orderDigits at hf
  refine ab_iconst (pc2 := 1) (v := 0) dX11_orderDigits_0 rfl ab_k_iconst_0 ?_
  refine ab_istore_n (pc2 := 2) (lo2 := [some (va_rf _), some (.int _), some (.int _), none]) dX11_orderDigits_1 rfl (by decide) rfl ?_
  refine ab_iload_n (pc2 := 3) dX11_orderDigits_2 rfl rfl ?_
  refine ab_iconst (pc2 := 4) (v := 1) dX11_orderDigits_3 rfl ab_k_iconst_1 ?_
  refine ab_isub (pc2 := 5) dX11_orderDigits_4 rfl ?_
  refine ab_istore_n (pc2 := 6) (lo2 := [some (va_rf _), some (.int _), some (.int _), some (.int _)]) dX11_orderDigits_5 rfl (by decide) rfl ?_
  exact ab_weak (x_X11_orderDigits_l6 ht0 _ _ _ _ hf) (ab_leS (ab_leN (ab_leS (ab_leS ab_le0))))
set_option maxHeartbeats 4000000 in
set_option maxRecDepth 100000 in
theorem m_X11_orderDigits {d : Nat} {t0 : Nat} {i1 : Int32} {h : ab_HP} {r : Int32} (ht0 : (ab_shp t0).1 = 0) (hf : f_X11_orderDigits t0 i1 h = some r) : ab_MET mX11_orderDigits (d + 1) 0 0 [va_rf (some t0), .int i1] h (ab_Pi r h) := ab_met (by decide +kernel) (by decide +kernel) (Nat.le_of_ble_eq_true rfl) rfl (x_X11_orderDigits ht0 hf)
set_option maxHeartbeats 4000000 in
set_option maxRecDepth 100000 in
theorem x_X11_swapPlaces {d : Nat} {t0 : Nat} {i1 : Int32} {i2 : Int32} {h : ab_HP} {r : ab_HP} (ht0 : (ab_shp t0).1 = 0) (hf : f_X11_swapPlaces t0 i1 i2 h = some r) : ab_T mX11_swapPlaces (d + 1) 0 0 0 0 0 [some (va_rf (some t0)), some (.int i1), some (.int i2), none] [] h (ab_Pv r) := by
  unfold f_X11_swapPlaces at hf
  refine ab_aload_n (x := _) (pc2 := 1) dX11_swapPlaces_0 rfl rfl ?_
  refine ab_getR (pc2 := 4) rfl ht0 fa_X11_35 dX11_swapPlaces_1 rfl (fun T1 => ?_)
  refine ab_iload_n (pc2 := 5) dX11_swapPlaces_4 rfl rfl ?_
  obtain ⟨w2, ew2, hf⟩ := ab_bind hf
  refine ab_callS (pc2 := 8) (st := []) (m_X11_at (d := (d + 0)) T1 ew2) mf_X11_at tw_251 tw_23 dX11_swapPlaces_5 rfl (by omega) (Nat.le_refl _) (Nat.le_refl _) rfl (Nat.le_of_ble_eq_true rfl) (ab_kPi ?_)
  refine ab_istore_n (pc2 := 9) (lo2 := [some (va_rf _), some (.int _), some (.int _), some (.int _)]) dX11_swapPlaces_8 rfl (by decide) rfl ?_
  refine ab_aload_n (x := _) (pc2 := 10) dX11_swapPlaces_9 rfl rfl ?_
  refine ab_getR (pc2 := 13) rfl ht0 fa_X11_35 dX11_swapPlaces_10 rfl (fun T3 => ?_)
  refine ab_iload_n (pc2 := 14) dX11_swapPlaces_13 rfl rfl ?_
  refine ab_aload_n (x := _) (pc2 := 15) dX11_swapPlaces_14 rfl rfl ?_
  refine ab_getR (pc2 := 18) rfl ht0 fa_X11_35 dX11_swapPlaces_15 rfl (fun T4 => ?_)
  refine ab_iload_n (pc2 := 19) dX11_swapPlaces_18 rfl rfl ?_
  obtain ⟨w5, ew5, hf⟩ := ab_bind hf
  refine ab_callS (pc2 := 22) (st := [_, _]) (m_X11_at (d := (d + 0)) T4 ew5) mf_X11_at tw_251 tw_23 dX11_swapPlaces_19 rfl (by omega) (Nat.le_refl _) (Nat.le_refl _) rfl (Nat.le_of_ble_eq_true rfl) (ab_kPi ?_)
  obtain ⟨w6, ew6, hf⟩ := ab_bind hf
  refine ab_callS (pc2 := 25) (st := []) (m_X11_store (d := (d + 0)) T3 ew6) mf_X11_store tw_252 tw_169 dX11_swapPlaces_22 rfl (by omega) (Nat.le_refl _) (Nat.le_refl _) rfl (Nat.le_of_ble_eq_true rfl) (ab_kPv ?_)
  refine ab_aload_n (x := _) (pc2 := 26) dX11_swapPlaces_25 rfl rfl ?_
  refine ab_getR (pc2 := 29) rfl ht0 fa_X11_35 dX11_swapPlaces_26 rfl (fun T7 => ?_)
  refine ab_iload_n (pc2 := 30) dX11_swapPlaces_29 rfl rfl ?_
  refine ab_iload_n (pc2 := 31) dX11_swapPlaces_30 rfl rfl ?_
  obtain ⟨w8, ew8, hf⟩ := ab_bind hf
  refine ab_callS (pc2 := 34) (st := []) (m_X11_store (d := (d + 0)) T7 ew8) mf_X11_store tw_252 tw_169 dX11_swapPlaces_31 rfl (by omega) (Nat.le_refl _) (Nat.le_refl _) rfl (Nat.le_of_ble_eq_true rfl) (ab_kPv ?_)
  cases Option.some.inj hf
  exact ab_retV dX11_swapPlaces_34 rfl (Nat.le_refl _) (Nat.le_refl _) ⟨rfl, rfl⟩
set_option maxHeartbeats 4000000 in
set_option maxRecDepth 100000 in
theorem m_X11_swapPlaces {d : Nat} {t0 : Nat} {i1 : Int32} {i2 : Int32} {h : ab_HP} {r : ab_HP} (ht0 : (ab_shp t0).1 = 0) (hf : f_X11_swapPlaces t0 i1 i2 h = some r) : ab_MET mX11_swapPlaces (d + 1) 0 0 [va_rf (some t0), .int i1, .int i2] h (ab_Pv r) := ab_met (by decide +kernel) (by decide +kernel) (Nat.le_of_ble_eq_true rfl) rfl (x_X11_swapPlaces ht0 hf)
set_option maxHeartbeats 4000000 in
set_option maxRecDepth 100000 in
theorem x_X11_nextOrder_l93 {d : Nat} {t0 : Nat} {r : (Int32 × ab_HP)} (ht0 : (ab_shp t0).1 = 0) : ∀ (n : Nat) (i4 : Int32) (i5 : Int32) (h : ab_HP), f_X11_nextOrder_l93 t0 n i4 i5 h = some r → ab_T mX11_nextOrder (d + 2) 0 0 0 0 93 [some (va_rf (some t0)), none, none, none, some (.int i4), some (.int i5)] [] h (ab_Pb r.1 r.2) := by
  intro n
  induction n with
  | zero =>
    intro i4 i5 h hf
    rw [f_X11_nextOrder_l93] at hf
    cases hf
  | succ n ih =>
    intro i4 i5 h hf
    rw [f_X11_nextOrder_l93] at hf
    refine ab_iload (pc2 := 95) dX11_nextOrder_93 rfl rfl ?_
    refine ab_iload (pc2 := 97) dX11_nextOrder_95 rfl rfl ?_
    refine ab_icmp_ge (tgt := 117) (pc2 := 100) dX11_nextOrder_97 (by decide) rfl hf (fun c15 hf => ?_) (fun c15 hf => ?_)
    · refine ab_iconst (pc2 := 118) (v := 1) dX11_nextOrder_117 rfl ab_k_iconst_1 ?_
      cases Option.some.inj hf
      exact ab_retI dX11_nextOrder_118 (Or.inr ⟨rfl, (Or.inr rfl)⟩) (Nat.le_refl _) (Nat.le_refl _) ⟨rfl, rfl, (Or.inr rfl)⟩
    · refine ab_aload_n (x := _) (pc2 := 101) dX11_nextOrder_100 rfl rfl ?_
      refine ab_iload (pc2 := 103) dX11_nextOrder_101 rfl rfl ?_
      refine ab_iload (pc2 := 105) dX11_nextOrder_103 rfl rfl ?_
      obtain ⟨w16, ew16, hf⟩ := ab_bind hf
      refine ab_callV (pc2 := 108) (st := []) rfl ht0 (by decide) (m_X11_swapPlaces (d := (d + 0)) ht0 ew16) mf_X11_swapPlaces tw_254 tw_253 ts_X11_swapPlaces (Or.inl (by decide +kernel)) dX11_nextOrder_105 rfl (by omega) (Nat.le_refl _) (Nat.le_refl _) rfl (Nat.le_of_ble_eq_true rfl) (ab_kPv ?_)
      refine ab_iinc (pc2 := 111) (v := _ + 1) (lo2 := [some (va_rf _), none, none, none, some (.int _), some (.int _)]) dX11_nextOrder_108 rfl rfl rfl (by decide) rfl ?_
      refine ab_iinc (pc2 := 114) (v := _ + (-1)) (lo2 := [some (va_rf _), none, none, none, some (.int _), some (.int _)]) dX11_nextOrder_111 rfl rfl rfl (by decide) rfl ?_
      refine ab_goto (tgt := 93) dX11_nextOrder_114 (by decide) ?_
      exact ab_weak (ih _ _ _ hf) (ab_leS (ab_leN (ab_leN (ab_leN (ab_leS (ab_leS ab_le0))))))
set_option maxHeartbeats 4000000 in
set_option maxRecDepth 100000 in
theorem x_X11_nextOrder_b77 {d : Nat} {t0 : Nat} {i1 : Int32} {i2 : Int32} {i3 : Int32} {h : ab_HP} {r : (Int32 × ab_HP)} (ht0 : (ab_shp t0).1 = 0) (hf : f_X11_nextOrder_b77 t0 i1 i2 i3 h = some r) : ab_T mX11_nextOrder (d + 2) 0 0 0 0 77 [some (va_rf (some t0)), some (.int i1), some (.int i2), some (.int i3), none, none] [] h (ab_Pb r.1 r.2) := by
  unfold f_X11_nextOrder_b77 at hf
  refine ab_aload_n (x := _) (pc2 := 78) dX11_nextOrder_77 rfl rfl ?_
  refine ab_iload_n (pc2 := 79) dX11_nextOrder_78 rfl rfl ?_
  refine ab_iload_n (pc2 := 80) dX11_nextOrder_79 rfl rfl ?_
  obtain ⟨w14, ew14, hf⟩ := ab_bind hf
  refine ab_callV (pc2 := 83) (st := []) rfl ht0 (by decide) (m_X11_swapPlaces (d := (d + 0)) ht0 ew14) mf_X11_swapPlaces tw_254 tw_253 ts_X11_swapPlaces (Or.inl (by decide +kernel)) dX11_nextOrder_80 rfl (by omega) (Nat.le_refl _) (Nat.le_refl _) rfl (Nat.le_of_ble_eq_true rfl) (ab_kPv ?_)
  refine ab_iload_n (pc2 := 84) dX11_nextOrder_83 rfl rfl ?_
  refine ab_iconst (pc2 := 85) (v := 1) dX11_nextOrder_84 rfl ab_k_iconst_1 ?_
  refine ab_iadd (pc2 := 86) dX11_nextOrder_85 rfl ?_
  refine ab_istore (pc2 := 88) (lo2 := [some (va_rf _), some (.int _), some (.int _), some (.int _), some (.int _), none]) dX11_nextOrder_86 rfl (by decide) rfl ?_
  refine ab_iload_n (pc2 := 89) dX11_nextOrder_88 rfl rfl ?_
  refine ab_iconst (pc2 := 90) (v := 1) dX11_nextOrder_89 rfl ab_k_iconst_1 ?_
  refine ab_isub (pc2 := 91) dX11_nextOrder_90 rfl ?_
  refine ab_istore (pc2 := 93) (lo2 := [some (va_rf _), some (.int _), some (.int _), some (.int _), some (.int _), some (.int _)]) dX11_nextOrder_91 rfl (by decide) rfl ?_
  exact ab_weak (x_X11_nextOrder_l93 ht0 _ _ _ _ hf) (ab_leS (ab_leN (ab_leN (ab_leN (ab_leS (ab_leS ab_le0))))))
set_option maxHeartbeats 4000000 in
set_option maxRecDepth 100000 in
theorem x_X11_nextOrder_l45 {d : Nat} {t0 : Nat} {r : (Int32 × ab_HP)} (ht0 : (ab_shp t0).1 = 0) : ∀ (n : Nat) (i1 : Int32) (i2 : Int32) (i3 : Int32) (h : ab_HP), f_X11_nextOrder_l45 t0 n i1 i2 i3 h = some r → ab_T mX11_nextOrder (d + 2) 0 0 0 0 45 [some (va_rf (some t0)), some (.int i1), some (.int i2), some (.int i3), none, none] [] h (ab_Pb r.1 r.2) := by
  intro n
  induction n with
  | zero =>
    intro i1 i2 i3 h hf
    rw [f_X11_nextOrder_l45] at hf
    cases hf
  | succ n ih =>
    intro i1 i2 i3 h hf
    rw [f_X11_nextOrder_l45] at hf
    refine ab_iload_n (pc2 := 46) dX11_nextOrder_45 rfl rfl ?_
    refine ab_iload_n (pc2 := 47) dX11_nextOrder_46 rfl rfl ?_
    refine ab_iconst (pc2 := 48) (v := 1) dX11_nextOrder_47 rfl ab_k_iconst_1 ?_
    refine ab_iadd (pc2 := 49) dX11_nextOrder_48 rfl ?_
    refine ab_icmp_le (tgt := 77) (pc2 := 52) dX11_nextOrder_49 (by decide) rfl hf (fun c8 hf => ?_) (fun c8 hf => ?_)
    · exact ab_weak (x_X11_nextOrder_b77 ht0 hf) (ab_leS (ab_leS (ab_leS (ab_leS (ab_leN (ab_leN ab_le0))))))
    · refine ab_aload_n (x := _) (pc2 := 53) dX11_nextOrder_52 rfl rfl ?_
      refine ab_getR (pc2 := 56) rfl ht0 fa_X11_35 dX11_nextOrder_53 rfl (fun T9 => ?_)
      refine ab_iload_n (pc2 := 57) dX11_nextOrder_56 rfl rfl ?_
      obtain ⟨w10, ew10, hf⟩ := ab_bind hf
      refine ab_callS (pc2 := 60) (st := []) (m_X11_at (d := (d + 1)) T9 ew10) mf_X11_at tw_251 tw_23 dX11_nextOrder_57 rfl (by omega) (Nat.le_refl _) (Nat.le_refl _) rfl (Nat.le_of_ble_eq_true rfl) (ab_kPi ?_)
      refine ab_aload_n (x := _) (pc2 := 61) dX11_nextOrder_60 rfl rfl ?_
      refine ab_getR (pc2 := 64) rfl ht0 fa_X11_35 dX11_nextOrder_61 rfl (fun T11 => ?_)
      refine ab_iload_n (pc2 := 65) dX11_nextOrder_64 rfl rfl ?_
      obtain ⟨w12, ew12, hf⟩ := ab_bind hf
      refine ab_callS (pc2 := 68) (st := [_]) (m_X11_at (d := (d + 1)) T11 ew12) mf_X11_at tw_251 tw_23 dX11_nextOrder_65 rfl (by omega) (Nat.le_refl _) (Nat.le_refl _) rfl (Nat.le_of_ble_eq_true rfl) (ab_kPi ?_)
      refine ab_icmp_ge (tgt := 77) (pc2 := 71) dX11_nextOrder_68 (by decide) rfl hf (fun c13 hf => ?_) (fun c13 hf => ?_)
      · exact ab_weak (x_X11_nextOrder_b77 ht0 hf) (ab_leS (ab_leS (ab_leS (ab_leS (ab_leN (ab_leN ab_le0))))))
      · refine ab_iinc (pc2 := 74) (v := _ + (-1)) (lo2 := [some (va_rf _), some (.int _), some (.int _), some (.int _), none, none]) dX11_nextOrder_71 rfl rfl rfl (by decide) rfl ?_
        refine ab_goto (tgt := 45) dX11_nextOrder_74 (by decide) ?_
        exact ab_weak (ih _ _ _ _ hf) (ab_leS (ab_leS (ab_leS (ab_leS (ab_leN (ab_leN ab_le0))))))
set_option maxHeartbeats 4000000 in
set_option maxRecDepth 100000 in
theorem x_X11_nextOrder_b35 {d : Nat} {t0 : Nat} {i1 : Int32} {i2 : Int32} {h : ab_HP} {r : (Int32 × ab_HP)} (ht0 : (ab_shp t0).1 = 0) (hf : f_X11_nextOrder_b35 t0 i1 i2 h = some r) : ab_T mX11_nextOrder (d + 2) 0 0 0 0 35 [some (va_rf (some t0)), some (.int i1), some (.int i2), none, none, none] [] h (ab_Pb r.1 r.2) := by
  unfold f_X11_nextOrder_b35 at hf
  refine ab_iload_n (pc2 := 36) dX11_nextOrder_35 rfl rfl ?_
  refine ab_if_ge (tgt := 41) (pc2 := 39) dX11_nextOrder_36 (by decide) rfl hf (fun c7 hf => ?_) (fun c7 hf => ?_)
  · refine ab_iload_n (pc2 := 42) dX11_nextOrder_41 rfl rfl ?_
    refine ab_iconst (pc2 := 43) (v := 1) dX11_nextOrder_42 rfl ab_k_iconst_1 ?_
    refine ab_isub (pc2 := 44) dX11_nextOrder_43 rfl ?_
    refine ab_istore_n (pc2 := 45) (lo2 := [some (va_rf _), some (.int _), some (.int _), some (.int _), none, none]) dX11_nextOrder_44 rfl (by decide) rfl ?_
    exact ab_weak (x_X11_nextOrder_l45 ht0 _ _ _ _ _ hf) (ab_leS (ab_leS (ab_leS (ab_leS (ab_leN (ab_leN ab_le0))))))
  · refine ab_iconst (pc2 := 40) (v := 0) dX11_nextOrder_39 rfl ab_k_iconst_0 ?_
    cases Option.some.inj hf
    exact ab_retI dX11_nextOrder_40 (Or.inr ⟨rfl, (Or.inl rfl)⟩) (Nat.le_refl _) (Nat.le_refl _) ⟨rfl, rfl, (Or.inl rfl)⟩
set_option maxHeartbeats 4000000 in
set_option maxRecDepth 100000 in
theorem x_X11_nextOrder_l4 {d : Nat} {t0 : Nat} {r : (Int32 × ab_HP)} (ht0 : (ab_shp t0).1 = 0) : ∀ (n : Nat) (i1 : Int32) (i2 : Int32) (h : ab_HP), f_X11_nextOrder_l4 t0 n i1 i2 h = some r → ab_T mX11_nextOrder (d + 2) 0 0 0 0 4 [some (va_rf (some t0)), some (.int i1), some (.int i2), none, none, none] [] h (ab_Pb r.1 r.2) := by
  intro n
  induction n with
  | zero =>
    intro i1 i2 h hf
    rw [f_X11_nextOrder_l4] at hf
    cases hf
  | succ n ih =>
    intro i1 i2 h hf
    rw [f_X11_nextOrder_l4] at hf
    refine ab_iload_n (pc2 := 5) dX11_nextOrder_4 rfl rfl ?_
    refine ab_if_lt (tgt := 35) (pc2 := 8) dX11_nextOrder_5 (by decide) rfl hf (fun c1 hf => ?_) (fun c1 hf => ?_)
    · exact ab_weak (x_X11_nextOrder_b35 ht0 hf) (ab_leS (ab_leS (ab_leS (ab_leN (ab_leN (ab_leN ab_le0))))))
    · refine ab_aload_n (x := _) (pc2 := 9) dX11_nextOrder_8 rfl rfl ?_
      refine ab_getR (pc2 := 12) rfl ht0 fa_X11_35 dX11_nextOrder_9 rfl (fun T2 => ?_)
      refine ab_iload_n (pc2 := 13) dX11_nextOrder_12 rfl rfl ?_
      obtain ⟨w3, ew3, hf⟩ := ab_bind hf
      refine ab_callS (pc2 := 16) (st := []) (m_X11_at (d := (d + 1)) T2 ew3) mf_X11_at tw_251 tw_23 dX11_nextOrder_13 rfl (by omega) (Nat.le_refl _) (Nat.le_refl _) rfl (Nat.le_of_ble_eq_true rfl) (ab_kPi ?_)
      refine ab_aload_n (x := _) (pc2 := 17) dX11_nextOrder_16 rfl rfl ?_
      refine ab_getR (pc2 := 20) rfl ht0 fa_X11_35 dX11_nextOrder_17 rfl (fun T4 => ?_)
      refine ab_iload_n (pc2 := 21) dX11_nextOrder_20 rfl rfl ?_
      refine ab_iconst (pc2 := 22) (v := 1) dX11_nextOrder_21 rfl ab_k_iconst_1 ?_
      refine ab_iadd (pc2 := 23) dX11_nextOrder_22 rfl ?_
      obtain ⟨w5, ew5, hf⟩ := ab_bind hf
      refine ab_callS (pc2 := 26) (st := [_]) (m_X11_at (d := (d + 1)) T4 ew5) mf_X11_at tw_251 tw_23 dX11_nextOrder_23 rfl (by omega) (Nat.le_refl _) (Nat.le_refl _) rfl (Nat.le_of_ble_eq_true rfl) (ab_kPi ?_)
      refine ab_icmp_le (tgt := 35) (pc2 := 29) dX11_nextOrder_26 (by decide) rfl hf (fun c6 hf => ?_) (fun c6 hf => ?_)
      · exact ab_weak (x_X11_nextOrder_b35 ht0 hf) (ab_leS (ab_leS (ab_leS (ab_leN (ab_leN (ab_leN ab_le0))))))
      · refine ab_iinc (pc2 := 32) (v := _ + (-1)) (lo2 := [some (va_rf _), some (.int _), some (.int _), none, none, none]) dX11_nextOrder_29 rfl rfl rfl (by decide) rfl ?_
        refine ab_goto (tgt := 4) dX11_nextOrder_32 (by decide) ?_
        exact ab_weak (ih _ _ _ hf) (ab_leS (ab_leS (ab_leS (ab_leN (ab_leN (ab_leN ab_le0))))))
set_option maxHeartbeats 4000000 in
set_option maxRecDepth 100000 in
theorem x_X11_nextOrder {d : Nat} {t0 : Nat} {i1 : Int32} {h : ab_HP} {r : (Int32 × ab_HP)} (ht0 : (ab_shp t0).1 = 0) (hf : f_X11_nextOrder t0 i1 h = some r) : ab_T mX11_nextOrder (d + 2) 0 0 0 0 0 [some (va_rf (some t0)), some (.int i1), none, none, none, none] [] h (ab_Pb r.1 r.2) := by
  unfold f_X11_nextOrder at hf
  refine ab_iload_n (pc2 := 1) dX11_nextOrder_0 rfl rfl ?_
  refine ab_iconst (pc2 := 2) (v := 2) dX11_nextOrder_1 rfl ab_k_iconst_2 ?_
  refine ab_isub (pc2 := 3) dX11_nextOrder_2 rfl ?_
  refine ab_istore_n (pc2 := 4) (lo2 := [some (va_rf _), some (.int _), some (.int _), none, none, none]) dX11_nextOrder_3 rfl (by decide) rfl ?_
  exact ab_weak (x_X11_nextOrder_l4 ht0 _ _ _ _ hf) (ab_leS (ab_leS (ab_leS (ab_leN (ab_leN (ab_leN ab_le0))))))
set_option maxHeartbeats 4000000 in
set_option maxRecDepth 100000 in
theorem m_X11_nextOrder {d : Nat} {t0 : Nat} {i1 : Int32} {h : ab_HP} {r : (Int32 × ab_HP)} (ht0 : (ab_shp t0).1 = 0) (hf : f_X11_nextOrder t0 i1 h = some r) : ab_MET mX11_nextOrder (d + 2) 0 0 [va_rf (some t0), .int i1] h (ab_Pb r.1 r.2) := ab_met (by decide +kernel) (by decide +kernel) (Nat.le_of_ble_eq_true rfl) rfl (x_X11_nextOrder ht0 hf)
