section ABG
/-! the class's fail, element, toss; the law's element -/
theorem ez_k300 : Cond.methodLink RX11 300 yX1_fail ∈ ab_TS := ab_TS_in (tk_5 _ (List.mem_of_getElem? (i := 3) (by decide +kernel))) (by decide +kernel)
theorem ez_ifail : Cond.instanceMethod yX1_fail ∈ ab_TS := ab_TS_in (tk_5 _ (List.mem_of_getElem? (i := 4) (by decide +kernel))) (by decide +kernel)
theorem ez_sfail : Cond.sameMethod RX1 RX1 "fail" "()V" ∈ ab_TS := ab_TS_in (tk_5 _ (List.mem_of_getElem? (i := 6) (by decide +kernel))) (by decide +kernel)
theorem ez_f303 : Cond.fieldLink RX11 303 RX1 "failure" "I" ∈ ab_TS := ab_TS_in (tk_2 _ (List.mem_of_getElem? (i := 126) (by decide +kernel))) (by decide +kernel)
theorem ez_k7 : Cond.methodLink RL 7 yX11_element ∈ ab_TS := ab_TS_in (tk_5 _ (List.mem_of_getElem? (i := 87) (by decide +kernel))) (by decide +kernel)
theorem ez_ielem : Cond.instanceMethod yX11_element ∈ ab_TS := ab_TS_in (tk_5 _ (List.mem_of_getElem? (i := 88) (by decide +kernel))) (by decide +kernel)
theorem ez_k188 : Cond.methodLink RX11 188 yX6_rowRefusal ∈ ab_TS := ab_TS_in (tk_4 _ (List.mem_of_getElem? (i := 78) (by decide +kernel))) (by decide +kernel)
theorem ez_irow : Cond.instanceMethod yX6_rowRefusal ∈ ab_TS := ab_TS_in (tk_4 _ (List.mem_of_getElem? (i := 79) (by decide +kernel))) (by decide +kernel)
theorem ez_k261 : Cond.methodLink RX11 261 yX6_hasPlace ∈ ab_TS := ab_TS_in (tk_5 _ (List.mem_of_getElem? (i := 107) (by decide +kernel))) (by decide +kernel)
theorem ez_ihas : Cond.instanceMethod yX6_hasPlace ∈ ab_TS := ab_TS_in (tk_1 _ (List.mem_of_getElem? (i := 223) (by decide +kernel))) (by decide +kernel)
theorem ez_k269 : Cond.methodLink RX11 269 yX6_read ∈ ab_TS := ab_TS_in (tk_3 _ (List.mem_of_getElem? (i := 161) (by decide +kernel))) (by decide +kernel)
theorem ez_iread : Cond.instanceMethod yX6_read ∈ ab_TS := ab_TS_in (tk_1 _ (List.mem_of_getElem? (i := 219) (by decide +kernel))) (by decide +kernel)
theorem ez_fa303 : ab_FA RX11 303 4 12 0 false false := ⟨by decide, rfl, RX1, RX1, "failure", "I", ez_f303, Or.inl rfl, by decide +kernel, by decide +kernel, fun z => by cases z⟩
def ab_hhT : List (Nat × Nat × Nat × Nat) := [(26, 30, 33, 264)]
def ab_hhE : List (Nat × Nat × Nat × Nat) := [(0, 9, 12, 13), (0, 9, 16, 15)]
theorem ez_hT : ab_hh yX11_toss = ab_hhT := by decide +kernel
theorem ez_hE : ab_hh yL_element = ab_hhE := by decide +kernel
theorem ez_h0 : ab_hh yX11_element = [] := by decide +kernel
theorem ez_h1 : ab_hh yX1_fail = [] := by decide +kernel
theorem ez_tT : tableOf (ab_hh yX11_toss) = [⟨26, 30, 33, 264⟩] := by rw [ez_hT]; rfl
theorem ez_tE : tableOf (ab_hh yL_element) = [⟨0, 9, 12, 13⟩, ⟨0, 9, 16, 15⟩] := by rw [ez_hE]; rfl
theorem mf_X11_toss : ab_MFW mX11_toss ab_hhT 1 := ⟨ab_TS_in (tk_5 _ (List.mem_of_getElem? (i := 1) (by decide +kernel))) (by decide +kernel), ab_TS_in (tk_1 _ (List.mem_of_getElem? (i := 1) (by decide +kernel))) (by decide +kernel), ⟨by decide +kernel, by decide +kernel⟩, by decide +kernel, by decide⟩
theorem mf_L_element : ab_MFW mL_element ab_hhE 4 := ⟨ab_TS_in (tk_5 _ (List.mem_of_getElem? (i := 84) (by decide +kernel))) (by decide +kernel), ab_TS_in (tk_1 _ (List.mem_of_getElem? (i := 0) (by decide +kernel))) (by decide +kernel), ⟨by decide +kernel, by decide +kernel⟩, by decide +kernel, by decide⟩
abbrev mz_fail : ab_M := (yX1_fail, cX1_fail, 1, none, 1004, fun _ => 0)
abbrev mz_eA : ab_M := (yX11_element, cX11_element, 4, some .long, 1010, fun _ => 0)
abbrev mz_eS : ab_M := (yX11_element, cX11_element, 4, some .long, 1036, fun _ => 0)
abbrev mz_toss : ab_M := (yX11_toss, cX11_toss, 5, some .int, 1, fun _ => 0)
abbrev mz_elem : ab_M := (yL_element, cL_element, 5, some .int, 1, fun _ => 0)
section
variable {d t0 q p s : Nat} {i1 i2 : Int32} {h : ab_HP}
theorem x_X1_fail0 (ht0 : (ab_shp p).1 = 4) (hx : ab_i h p 13 = 0) : ab_T mX1_fail (d + 0) 0 0 0 0 0 [some (va_rf (some p))] [] h (ab_Pv h) := by
  refine ab_aload_n (x := _) (pc2 := 1) dX1_fail_0 rfl rfl ?_
  refine ab_getI (pc2 := 4) rfl ht0 fa_X1_45 (by decide) dX1_fail_1 rfl ?_
  refine ab_if_eq (α := Unit) (X := some ()) (Y := none) (r := ()) (tgt := 17) (pc2 := 7) dX1_fail_4 (by decide) rfl (if_pos hx) (fun _ _ => ?_) (fun _ g => by cases g)
  exact ab_retV dX1_fail_17 rfl (Nat.le_refl _) (Nat.le_refl _) ⟨rfl, rfl⟩
theorem m_X1_fail0 (ht0 : (ab_shp p).1 = 4) (hx : ab_i h p 13 = 0) : ab_MET mX1_fail (d + 0) 0 0 [va_rf (some p)] h (ab_Pv h) := ab_met (by decide +kernel) (by decide +kernel) (Nat.le_of_ble_eq_true rfl) rfl (x_X1_fail0 ht0 hx)
theorem x_X1_failX (ht0 : (ab_shp p).1 = 4) : ab_T mz_fail (d + 6) 0 0 0 0 0 [some (va_rf (some p))] [] h (ab_Pi (ab_i h p 13) h) := by
  refine ab_aload_n (x := _) (pc2 := 1) dX1_fail_0 rfl rfl ?_
  refine ab_getI (pc2 := 4) rfl ht0 fa_X1_45 (by decide) dX1_fail_1 rfl ?_
  exact ab_exitI ⟨by decide +kernel, rfl⟩ (Nat.le_refl _) (Nat.le_refl _) ⟨rfl, rfl⟩
theorem m_X1_failX (ht0 : (ab_shp p).1 = 4) (hx : ¬ ab_i h p 13 = 0) : ab_METX mX1_fail (d + 6) 1 6 [va_rf (some p)] h ez_S :=
  ab_metTI (y := mz_fail) (pc0 := 4) (off := 13) (tgt := 17) (tx := "a deed fails") (by decide +kernel) (by decide +kernel) (by decide +kernel) (Nat.le_of_ble_eq_true rfl) rfl rfl ez_h1 rfl ez_w56 ez_h58 dX1_fail_4 (by decide) dX1_fail_7 dX1_fail_10 dX1_fail_11 dX1_fail_13 dX1_fail_16 hx (x_X1_failX ht0)
theorem x_X11_toss {r : Int32 × ab_HP} (ht0 : (ab_shp t0).1 = 0) (hf : f_X11_toss t0 i1 h = some r) : ab_T mz_toss (d + 8) 8 64 0 0 0 [some (va_rf (some t0)), some (.int i1), none, none, none] [] h (ab_Pi r.1 r.2) := by
  unfold f_X11_toss at hf
  refine ab_aload_n (x := _) (pc2 := 1) dX11_toss_0 rfl rfl ?_
  refine ab_iload_n (pc2 := 2) dX11_toss_1 rfl rfl ?_
  obtain ⟨w1, ew1, hf⟩ := ab_bind hf
  refine ab_callV (pc2 := 5) (st := []) rfl ht0 (by decide) (m_X11_shelfAt (d := (d + 7)) ht0 ew1) mf_X11_shelfAt tw_93 tw_92 ts_X11_shelfAt (Or.inl (by decide +kernel)) dX11_toss_2 rfl (by omega) (by omega) (by omega) rfl (Nat.le_of_ble_eq_true rfl) (ab_kPr fun T2 => ?_)
  refine ab_astore_n (pc2 := 6) (lo2 := [some (va_rf _), some (.int _), some (va_rf _), none, none]) dX11_toss_5 rfl (by decide) rfl ?_
  refine ab_aload_n (x := _) (pc2 := 7) dX11_toss_6 rfl rfl ?_
  refine ab_nnul (tgt := 12) (pc2 := 10) dX11_toss_7 (by decide) rfl hf (fun hq3 hf => ?_) (fun q3 hq3 hf => ?_)
  · refine ab_iconst (pc2 := 11) (v := (-1)) dX11_toss_10 rfl ab_k_iconst_m1 ?_
    cases Option.some.inj hf
    exact ab_retI dX11_toss_11 (Or.inl rfl) (by omega) (by omega) ⟨rfl, rfl⟩
  · refine ab_aload_n (x := _) (pc2 := 13) dX11_toss_12 rfl rfl ?_
    refine ab_getR (pc2 := 16) hq3 (T2 q3 hq3) fa_X11_290 dX11_toss_13 rfl (fun T4 => ?_)
    refine ab_astore_n (pc2 := 17) (lo2 := [some (va_rf _), some (.int _), some (va_rf _), some (va_rf _), none]) dX11_toss_16 rfl (by decide) (ab_st1_rf (j := 2) rfl rfl) ?_
    refine ab_aload_n (x := _) (pc2 := 18) dX11_toss_17 rfl rfl ?_
    refine ab_nnul (tgt := 26) (pc2 := 21) dX11_toss_18 (by decide) rfl hf (fun hq5 hf => ?_) (fun q5 hq5 hf => ?_)
    · refine ab_aload_n (x := _) (pc2 := 22) dX11_toss_21 rfl rfl ?_
      obtain ⟨w6, ew6, hf⟩ := ab_bind hf
      refine ab_callV (pc2 := 25) (st := []) hq3 (T2 q3 hq3) (by decide) (m_X6_deedRefusal (d := (d + 6)) (T2 q3 hq3) ew6) mf_X6_deedRefusal tw_344 tw_343 ts_X6_deedRefusal (Or.inl (by decide +kernel)) dX11_toss_22 rfl (by omega) (by omega) (by omega) rfl (Nat.le_of_ble_eq_true rfl) (ab_kPi ?_)
      cases Option.some.inj hf
      exact ab_retI dX11_toss_25 (Or.inl rfl) (by omega) (by omega) ⟨rfl, rfl⟩
    · refine ab_aload_n (x := _) (pc2 := 27) dX11_toss_26 rfl rfl ?_
      by_cases hx : ab_i h q5 13 = 0
      · rw [if_pos hx] at hf
        cases Option.some.inj hf
        refine ab_callV (pc2 := 30) (st := []) hq5 (T4 q5 hq5) (by decide) (m_X1_fail0 (d := (d + 7)) (T4 q5 hq5) hx) mf_X1_fail ez_k300 ez_ifail ts_X1_fail (Or.inr ez_sfail) dX11_toss_27 rfl (by omega) (by omega) (by omega) rfl (Nat.le_of_ble_eq_true rfl) (ab_kPv ?_)
        refine ab_goto (tgt := 40) dX11_toss_30 (by decide) ?_
        refine ab_bipush (pc2 := 42) (v := (-15)) dX11_toss_40 rfl (by decide) ?_
        exact ab_retI dX11_toss_42 (Or.inl rfl) (by omega) (by omega) ⟨rfl, rfl⟩
      · rw [if_neg hx] at hf
        cases Option.some.inj hf
        refine ab_callVX (as := []) (st := []) (j := 4) (pre := []) (suf := []) (xx := ⟨26, 30, 33, 264⟩) (lo2 := [some (va_rf _), some (.int _), some (va_rf _), some (va_rf _), none]) (Nat.le_refl _) (by decide +kernel) hq5 (T4 q5 hq5) (by decide) (m_X1_failX (d := (d + 1)) (T4 q5 hq5) hx) mf_X1_fail ez_k300 ez_ifail ts_X1_fail (Or.inr ez_sfail) dX11_toss_27 (by omega) (by omega) (by omega) rfl (Nat.le_of_ble_eq_true rfl) ez_tT (fun z hz => by cases hz) (by decide) (by decide) ez_l264 (fun _ g => g.1) dX11_toss_33 (by decide) (by rw [ab_st1_rf (j := 3) rfl rfl]; rfl) ?_
        refine ab_aload_n (x := _) (pc2 := 36) dX11_toss_35 rfl rfl ?_
        refine ab_getI (pc2 := 39) hq5 (T4 q5 hq5) ez_fa303 (by decide) dX11_toss_36 rfl ?_
        exact ab_retI dX11_toss_39 (Or.inl rfl) (by omega) (by omega) ⟨rfl, rfl⟩
theorem m_X11_toss {r : Int32 × ab_HP} (ht0 : (ab_shp t0).1 = 0) (hf : f_X11_toss t0 i1 h = some r) : ab_METW mX11_toss ab_hhT (d + 8) 8 64 [va_rf (some t0), .int i1] h (ab_Pi r.1 r.2) :=
  ab_metW (y := mz_toss) (by decide +kernel) (by decide +kernel) (Nat.le_of_ble_eq_true rfl) rfl rfl ez_hT (x_X11_toss ht0 hf)
theorem x_X11_eA (ht0 : (ab_shp q).1 = 0) (ew1 : f_X11_shelfAt q i1 h = some none) : ab_T mz_eA (d + 6) 0 0 0 0 0 [some (va_rf (some q)), some (.int i1), some (.int i2), none] [] h (ab_Pv h) := by
  refine ab_aload_n (x := _) (pc2 := 1) dX11_element_0 rfl rfl ?_
  refine ab_iload_n (pc2 := 2) dX11_element_1 rfl rfl ?_
  refine ab_callV (pc2 := 5) (st := []) rfl ht0 (by decide) (m_X11_shelfAt (d := (d + 5)) ht0 ew1) mf_X11_shelfAt tw_93 tw_92 ts_X11_shelfAt (Or.inl (by decide +kernel)) dX11_element_2 rfl (by omega) (Nat.le_refl _) (Nat.le_refl _) rfl (Nat.le_of_ble_eq_true rfl) (ab_kPr fun T2 => ?_)
  refine ab_astore_n (pc2 := 6) (lo2 := [some (va_rf _), some (.int _), some (.int _), some (va_rf _)]) dX11_element_5 rfl (by decide) rfl ?_
  refine ab_aload_n (x := _) (pc2 := 7) dX11_element_6 rfl rfl ?_
  refine ab_ifnonnull (tgt := 21) (pc2 := 10) dX11_element_7 (by decide) rfl (fun _ => ?_) (fun _ e => by cases e)
  exact ab_exitV ⟨by decide +kernel, rfl⟩ (Nat.le_refl _) (Nat.le_refl _) ⟨rfl, rfl⟩
theorem m_X11_eA (ht0 : (ab_shp q).1 = 0) (ew1 : f_X11_shelfAt q i1 h = some none) : ab_METX mX11_element (d + 6) 1 6 [va_rf (some q), .int i1, .int i2] h ez_A :=
  ab_metT (y := mz_eA) (pc0 := 10) (tx := "no such shelf") (by decide +kernel) (by decide +kernel) (by decide +kernel) (Nat.le_of_ble_eq_true rfl) rfl rfl ez_h0 (fun e => by cases e) ez_w254 ez_h256 dX11_element_10 dX11_element_13 dX11_element_14 dX11_element_17 dX11_element_20 (x_X11_eA ht0 ew1)
theorem x_X11_eS {w2 : Int32} (ht0 : (ab_shp q).1 = 0) (ew1 : f_X11_shelfAt q i1 h = some (some s)) (ew2 : f_X6_rowRefusal s h = some w2) (hw : ¬ w2 = 0 ∨ f_X6_hasPlace s i2 h = some 0) : ab_T mz_eS (d + 6) 0 0 0 0 0 [some (va_rf (some q)), some (.int i1), some (.int i2), none] [] h (ab_Pv h) := by
  refine ab_aload_n (x := _) (pc2 := 1) dX11_element_0 rfl rfl ?_
  refine ab_iload_n (pc2 := 2) dX11_element_1 rfl rfl ?_
  refine ab_callV (pc2 := 5) (st := []) rfl ht0 (by decide) (m_X11_shelfAt (d := (d + 5)) ht0 ew1) mf_X11_shelfAt tw_93 tw_92 ts_X11_shelfAt (Or.inl (by decide +kernel)) dX11_element_2 rfl (by omega) (Nat.le_refl _) (Nat.le_refl _) rfl (Nat.le_of_ble_eq_true rfl) (ab_kPr fun T2 => ?_)
  refine ab_astore_n (pc2 := 6) (lo2 := [some (va_rf _), some (.int _), some (.int _), some (va_rf _)]) dX11_element_5 rfl (by decide) rfl ?_
  refine ab_aload_n (x := _) (pc2 := 7) dX11_element_6 rfl rfl ?_
  refine ab_ifnonnull (tgt := 21) (pc2 := 10) dX11_element_7 (by decide) rfl (fun e => by cases e) (fun _ _ => ?_)
  refine ab_aload_n (x := _) (pc2 := 22) dX11_element_21 rfl rfl ?_
  refine ab_callV (pc2 := 25) (st := []) rfl (T2 s rfl) (by decide) (m_X6_rowRefusal (d := (d + 4)) (T2 s rfl) ew2) mf_X6_rowRefusal ez_k188 ez_irow ts_X6_rowRefusal (Or.inl (by decide +kernel)) dX11_element_22 rfl (by omega) (Nat.le_refl _) (Nat.le_refl _) rfl (Nat.le_of_ble_eq_true rfl) (ab_kPi ?_)
  by_cases hz : w2 = 0
  · refine ab_if_ne (α := Unit) (X := none) (Y := some ()) (r := ()) (tgt := 36) (pc2 := 28) dX11_element_25 (by decide) rfl (if_pos hz) (fun _ g => by cases g) (fun _ _ => ?_)
    have ew3 := hw.resolve_left (fun g => g hz)
    refine ab_aload_n (x := _) (pc2 := 29) dX11_element_28 rfl rfl ?_
    refine ab_iload_n (pc2 := 30) dX11_element_29 rfl rfl ?_
    refine ab_callV (pc2 := 33) (st := []) rfl (T2 s rfl) (by decide) (m_X6_hasPlace (d := (d + 5)) (T2 s rfl) ew3) mf_X6_hasPlace ez_k261 ez_ihas ts_X6_hasPlace (Or.inl (by decide +kernel)) dX11_element_30 rfl (by omega) (Nat.le_refl _) (Nat.le_refl _) rfl (Nat.le_of_ble_eq_true rfl) (ab_kPb fun _ => ?_)
    refine ab_if_ne (α := Unit) (X := none) (Y := some ()) (r := ()) (tgt := 47) (pc2 := 36) dX11_element_33 (by decide) rfl (if_pos rfl) (fun _ g => by cases g) (fun _ _ => ?_)
    exact ab_exitV ⟨by decide +kernel, rfl⟩ (Nat.le_refl _) (Nat.le_refl _) ⟨rfl, rfl⟩
  · refine ab_if_ne (α := Unit) (X := some ()) (Y := none) (r := ()) (tgt := 36) (pc2 := 28) dX11_element_25 (by decide) rfl (if_neg hz) (fun _ _ => ?_) (fun _ g => by cases g)
    exact ab_exitV ⟨by decide +kernel, rfl⟩ (Nat.le_refl _) (Nat.le_refl _) ⟨rfl, rfl⟩
theorem m_X11_eS {w2 : Int32} (ht0 : (ab_shp q).1 = 0) (ew1 : f_X11_shelfAt q i1 h = some (some s)) (ew2 : f_X6_rowRefusal s h = some w2) (hw : ¬ w2 = 0 ∨ f_X6_hasPlace s i2 h = some 0) : ab_METX mX11_element (d + 6) 1 6 [va_rf (some q), .int i1, .int i2] h ez_S :=
  ab_metT (y := mz_eS) (pc0 := 36) (tx := "no row, or no such place") (by decide +kernel) (by decide +kernel) (by decide +kernel) (Nat.le_of_ble_eq_true rfl) rfl rfl ez_h0 (fun e => by cases e) ez_w264 ez_h266 dX11_element_36 dX11_element_39 dX11_element_40 dX11_element_43 dX11_element_46 (x_X11_eS ht0 ew1 ew2 hw)
theorem x_X11_e0 {w3 w4 : Int32} (ht0 : (ab_shp q).1 = 0) (ew1 : f_X11_shelfAt q i1 h = some (some s)) (ew2 : f_X6_rowRefusal s h = some 0) (ew3 : f_X6_hasPlace s i2 h = some w3) (hw : ¬ w3 = 0) (ew4 : f_X6_read s i2 h = some w4) : ab_T mX11_element (d + 6) 0 0 0 0 0 [some (va_rf (some q)), some (.int i1), some (.int i2), none] [] h (ab_Pl w4.toInt64 h) := by
  refine ab_aload_n (x := _) (pc2 := 1) dX11_element_0 rfl rfl ?_
  refine ab_iload_n (pc2 := 2) dX11_element_1 rfl rfl ?_
  refine ab_callV (pc2 := 5) (st := []) rfl ht0 (by decide) (m_X11_shelfAt (d := (d + 5)) ht0 ew1) mf_X11_shelfAt tw_93 tw_92 ts_X11_shelfAt (Or.inl (by decide +kernel)) dX11_element_2 rfl (by omega) (Nat.le_refl _) (Nat.le_refl _) rfl (Nat.le_of_ble_eq_true rfl) (ab_kPr fun T2 => ?_)
  refine ab_astore_n (pc2 := 6) (lo2 := [some (va_rf _), some (.int _), some (.int _), some (va_rf _)]) dX11_element_5 rfl (by decide) rfl ?_
  refine ab_aload_n (x := _) (pc2 := 7) dX11_element_6 rfl rfl ?_
  refine ab_ifnonnull (tgt := 21) (pc2 := 10) dX11_element_7 (by decide) rfl (fun e => by cases e) (fun _ _ => ?_)
  refine ab_aload_n (x := _) (pc2 := 22) dX11_element_21 rfl rfl ?_
  refine ab_callV (pc2 := 25) (st := []) rfl (T2 s rfl) (by decide) (m_X6_rowRefusal (d := (d + 4)) (T2 s rfl) ew2) mf_X6_rowRefusal ez_k188 ez_irow ts_X6_rowRefusal (Or.inl (by decide +kernel)) dX11_element_22 rfl (by omega) (Nat.le_refl _) (Nat.le_refl _) rfl (Nat.le_of_ble_eq_true rfl) (ab_kPi ?_)
  refine ab_if_ne (α := Unit) (X := none) (Y := some ()) (r := ()) (tgt := 36) (pc2 := 28) dX11_element_25 (by decide) rfl (if_pos rfl) (fun _ g => by cases g) (fun _ _ => ?_)
  refine ab_aload_n (x := _) (pc2 := 29) dX11_element_28 rfl rfl ?_
  refine ab_iload_n (pc2 := 30) dX11_element_29 rfl rfl ?_
  refine ab_callV (pc2 := 33) (st := []) rfl (T2 s rfl) (by decide) (m_X6_hasPlace (d := (d + 5)) (T2 s rfl) ew3) mf_X6_hasPlace ez_k261 ez_ihas ts_X6_hasPlace (Or.inl (by decide +kernel)) dX11_element_30 rfl (by omega) (Nat.le_refl _) (Nat.le_refl _) rfl (Nat.le_of_ble_eq_true rfl) (ab_kPb fun _ => ?_)
  refine ab_if_ne (α := Unit) (X := some ()) (Y := none) (r := ()) (tgt := 47) (pc2 := 36) dX11_element_33 (by decide) rfl (if_neg hw) (fun _ _ => ?_) (fun _ g => by cases g)
  refine ab_aload_n (x := _) (pc2 := 48) dX11_element_47 rfl rfl ?_
  refine ab_iload_n (pc2 := 49) dX11_element_48 rfl rfl ?_
  refine ab_callV (pc2 := 52) (st := []) rfl (T2 s rfl) (by decide) (m_X6_read (d := (d + 4)) (T2 s rfl) ew4) mf_X6_read ez_k269 ez_iread ts_X6_read (Or.inl (by decide +kernel)) dX11_element_49 rfl (by omega) (Nat.le_refl _) (Nat.le_refl _) rfl (Nat.le_of_ble_eq_true rfl) (ab_kPi ?_)
  refine ab_i2l (pc2 := 53) dX11_element_52 rfl ?_
  exact ab_retL dX11_element_53 rfl (Nat.le_refl _) (Nat.le_refl _) ⟨rfl, rfl⟩
theorem m_X11_e0 {w3 w4 : Int32} (ht0 : (ab_shp q).1 = 0) (ew1 : f_X11_shelfAt q i1 h = some (some s)) (ew2 : f_X6_rowRefusal s h = some 0) (ew3 : f_X6_hasPlace s i2 h = some w3) (hw : ¬ w3 = 0) (ew4 : f_X6_read s i2 h = some w4) : ab_MET mX11_element (d + 6) 0 0 [va_rf (some q), .int i1, .int i2] h (ab_Pl w4.toInt64 h) := ab_met (by decide +kernel) (by decide +kernel) (Nat.le_of_ble_eq_true rfl) rfl (x_X11_e0 ht0 ew1 ew2 ew3 hw ew4)
theorem x_L_element {i0 i3 : Option Nat} {r : Int32 × ab_HP} (T_i0 : ∀ z, i0 = some z → (ab_shp z).1 = 0) (T_i3 : ∀ z, i3 = some z → (ab_shp z).1 = 7) (hf : f_L_element i0 i1 i2 i3 h = some r) : ab_T mz_elem (d + 8) 8 64 0 0 0 [some (va_rf i0), some (.int i1), some (.int i2), some (va_rf i3), none] [] h (ab_Pi r.1 r.2) := by
  unfold f_L_element at hf
  obtain ⟨q, eq0, hf⟩ := ab_bind hf
  refine ab_aload_n (x := _) (pc2 := 1) dL_element_0 rfl rfl ?_
  refine ab_iconst (pc2 := 2) (v := 0) dL_element_1 rfl ab_k_iconst_0 ?_
  refine ab_aload_n (x := _) (pc2 := 3) dL_element_2 rfl rfl ?_
  refine ab_iload_n (pc2 := 4) dL_element_3 rfl rfl ?_
  refine ab_iload_n (pc2 := 5) dL_element_4 rfl rfl ?_
  have ht0 := T_i0 q eq0
  have hS : ∀ {s : Nat} {w2 : Int32}, f_X11_shelfAt q i1 h = some (some s) → f_X6_rowRefusal s h = some w2 → (¬ w2 = 0 ∨ f_X6_hasPlace s i2 h = some 0) → r = (2, h) → ab_T mz_elem (d + 8) 8 64 0 0 5 [some (va_rf i0), some (.int i1), some (.int i2), some (va_rf i3), none] [.int i2, .int i1, va_rf i0, .int 0, va_rf i3] h (ab_Pi r.1 r.2) := by
    intro s w2 ew1 ew2 hw hr
    subst hr
    refine ab_callVX (as := [.int i1, .int i2]) (st := [.int 0, va_rf i3]) (j := 4) (pre := [⟨0, 9, 12, 13⟩]) (suf := []) (xx := ⟨0, 9, 16, 15⟩) (lo2 := [some (va_rf _), some (.int _), some (.int _), some (va_rf _), none]) (Nat.le_refl _) (by decide +kernel) eq0 ht0 (by decide) (m_X11_eS (d := (d + 1)) ht0 ew1 ew2 hw) mf_X11_element ez_k7 ez_ielem ts_X11_element (Or.inl (by decide +kernel)) dL_element_5 (by omega) (by omega) (by omega) rfl (Nat.le_of_ble_eq_true rfl) ez_tE (fun z hz => ?_) (by decide) (by decide) ez_l15 (fun _ g => g.1) dL_element_16 (by decide) (by rw [ab_st1_rf (j := 3) rfl rfl]; rfl) ?_
    · cases List.mem_singleton.mp hz
      exact Or.inr ⟨by decide, ez_A, ez_l13, fun _ g => g.2.2.1⟩
    · refine ab_iconst (pc2 := 19) (v := 2) dL_element_18 rfl (by decide) ?_
      exact ab_retI dL_element_19 (Or.inl rfl) (by omega) (by omega) ⟨rfl, rfl⟩
  obtain ⟨w1, ew1, hf⟩ := ab_bind hf
  cases w1 with
  | none =>
    cases Option.some.inj hf
    refine ab_callVX (as := [.int i1, .int i2]) (st := [.int 0, va_rf i3]) (j := 4) (pre := []) (suf := [⟨0, 9, 16, 15⟩]) (xx := ⟨0, 9, 12, 13⟩) (lo2 := [some (va_rf _), some (.int _), some (.int _), some (va_rf _), none]) (Nat.le_refl _) (by decide +kernel) eq0 ht0 (by decide) (m_X11_eA (d := (d + 1)) ht0 ew1) mf_X11_element ez_k7 ez_ielem ts_X11_element (Or.inl (by decide +kernel)) dL_element_5 (by omega) (by omega) (by omega) rfl (Nat.le_of_ble_eq_true rfl) ez_tE (fun z hz => by cases hz) (by decide) (by decide) ez_l13 (fun _ g => g.2.1) dL_element_12 (by decide) (by rw [ab_st1_rf (j := 3) rfl rfl]; rfl) ?_
    refine ab_iconst (pc2 := 15) (v := 1) dL_element_14 rfl (by decide) ?_
    exact ab_retI dL_element_15 (Or.inl rfl) (by omega) (by omega) ⟨rfl, rfl⟩
  | some s =>
    obtain ⟨w2, ew2, hf⟩ := ab_bind hf
    by_cases h2 : w2 = 0
    · rw [if_pos h2] at hf
      subst h2
      obtain ⟨w3, ew3, hf⟩ := ab_bind hf
      by_cases h3 : w3 = 0
      · rw [if_pos h3] at hf
        subst h3
        exact hS ew1 ew2 (Or.inr ew3) (Option.some.inj hf).symm
      · rw [if_neg h3] at hf
        obtain ⟨w4, ew4, hf⟩ := ab_bind hf
        obtain ⟨o, eo, hf⟩ := ab_bind hf
        obtain ⟨hin, hf⟩ := ab_guard hf
        cases Option.some.inj hf
        refine ab_callV (pc2 := 8) (as := [.int i1, .int i2]) (st := [.int 0, va_rf i3]) eq0 ht0 (by decide) (m_X11_e0 (d := (d + 1)) ht0 ew1 ew2 ew3 h3 ew4) mf_X11_element ez_k7 ez_ielem ts_X11_element (Or.inl (by decide +kernel)) dL_element_5 rfl (by omega) (by omega) (by omega) rfl (Nat.le_of_ble_eq_true rfl) (ab_kPl ?_)
        refine ab_last (pc2 := 9) eo (T_i3 o eo) (ab_in_vp hin) dL_element_8 rfl ?_
        refine ab_goto (tgt := 20) dL_element_9 (by decide) ?_
        refine ab_iconst (pc2 := 21) (v := 0) dL_element_20 rfl ab_k_iconst_0 ?_
        exact ab_retI dL_element_21 (Or.inl rfl) (by omega) (by omega) ⟨rfl, rfl⟩
    · rw [if_neg h2] at hf
      exact hS ew1 ew2 (Or.inl h2) (Option.some.inj hf).symm
theorem m_L_element {i0 i3 : Option Nat} {r : Int32 × ab_HP} (T_i0 : ∀ z, i0 = some z → (ab_shp z).1 = 0) (T_i3 : ∀ z, i3 = some z → (ab_shp z).1 = 7) (hf : f_L_element i0 i1 i2 i3 h = some r) : ab_METW mL_element ab_hhE (d + 8) 8 64 [va_rf i0, .int i1, .int i2, va_rf i3] h (ab_Pi r.1 r.2) :=
  ab_metW (y := mz_elem) (lo := [some (va_rf i0), some (.int i1), some (.int i2), some (va_rf i3), none]) (by decide +kernel) (by decide +kernel) (by simp [ab_lo, ab_rf1, ab_cI, ab_cJ]) (by simp [ab_lo0, ab_lo, ab_rf1, ab_cI, ab_cJ, List.replicate]) rfl ez_hE (x_L_element T_i0 T_i3 hf)
end
end ABG
