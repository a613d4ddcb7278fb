set_option maxHeartbeats 4000000 in
set_option maxRecDepth 100000 in
theorem x_X1_mayBeDone {d : Nat} {t0 : Nat} {i1 : Int32} {i2 : Int32} {h : ab_HP} {r : Int32} (ht0 : (ab_shp t0).1 = 4) (hf : f_X1_mayBeDone t0 i1 i2 h = some r) : ab_T mX1_mayBeDone (d + 1) 0 0 0 0 0 [some (va_rf (some t0)), some (.int i1), some (.int i2)] [] h (ab_Pb r h) := by
  unfold f_X1_mayBeDone at hf
  refine ab_aload_n (x := _) (pc2 := 1) dX1_mayBeDone_0 rfl rfl ?_
  refine ab_iload_n (pc2 := 2) dX1_mayBeDone_1 rfl rfl ?_
  obtain ⟨w1, ew1, hf⟩ := ab_bind hf
  refine ab_callV (pc2 := 5) (st := []) rfl ht0 (by decide) (m_X1_hasGround (d := (d + 0)) ht0 ew1) mf_X1_hasGround tw_148 tw_146 ts_X1_hasGround (Or.inr tw_147) dX1_mayBeDone_2 rfl (by omega) (Nat.le_refl _) (Nat.le_refl _) rfl (Nat.le_of_ble_eq_true rfl) (ab_kPb fun z2 => ?_)
  refine ab_if_eq (tgt := 20) (pc2 := 8) dX1_mayBeDone_5 (by decide) rfl hf (fun c3 hf => ?_) (fun c3 hf => ?_)
  · refine ab_iconst (pc2 := 21) (v := 0) dX1_mayBeDone_20 rfl ab_k_iconst_0 ?_
    cases Option.some.inj hf
    exact ab_retI dX1_mayBeDone_21 (Or.inr ⟨rfl, (Or.inl rfl)⟩) (Nat.le_refl _) (Nat.le_refl _) ⟨rfl, rfl, (Or.inl rfl)⟩
  · refine ab_iload_n (pc2 := 9) dX1_mayBeDone_8 rfl rfl ?_
    refine ab_aload_n (x := _) (pc2 := 10) dX1_mayBeDone_9 rfl rfl ?_
    refine ab_getI (pc2 := 13) rfl ht0 fa_X1_33 (by decide) dX1_mayBeDone_10 rfl ?_
    refine ab_icmp_lt (tgt := 20) (pc2 := 16) dX1_mayBeDone_13 (by decide) rfl hf (fun c4 hf => ?_) (fun c4 hf => ?_)
    · refine ab_iconst (pc2 := 21) (v := 0) dX1_mayBeDone_20 rfl ab_k_iconst_0 ?_
      cases Option.some.inj hf
      exact ab_retI dX1_mayBeDone_21 (Or.inr ⟨rfl, (Or.inl rfl)⟩) (Nat.le_refl _) (Nat.le_refl _) ⟨rfl, rfl, (Or.inl rfl)⟩
    · refine ab_iconst (pc2 := 17) (v := 1) dX1_mayBeDone_16 rfl ab_k_iconst_1 ?_
      refine ab_goto (tgt := 21) dX1_mayBeDone_17 (by decide) ?_
      cases Option.some.inj hf
      exact ab_retI dX1_mayBeDone_21 (Or.inr ⟨rfl, (Or.inr rfl)⟩) (Nat.le_refl _) (Nat.le_refl _) ⟨rfl, rfl, (Or.inr rfl)⟩
set_option maxHeartbeats 4000000 in
set_option maxRecDepth 100000 in
theorem m_X1_mayBeDone {d : Nat} {t0 : Nat} {i1 : Int32} {i2 : Int32} {h : ab_HP} {r : Int32} (ht0 : (ab_shp t0).1 = 4) (hf : f_X1_mayBeDone t0 i1 i2 h = some r) : ab_MET mX1_mayBeDone (d + 1) 0 0 [va_rf (some t0), .int i1, .int i2] h (ab_Pb r h) := ab_met (by decide +kernel) (by decide +kernel) (Nat.le_of_ble_eq_true rfl) rfl (x_X1_mayBeDone ht0 hf)
set_option maxHeartbeats 4000000 in
set_option maxRecDepth 100000 in
theorem x_X10_open {d : Nat} {t0 : Nat} {i1 : Option Nat} {h : ab_HP} {r : ab_HP} (ht0 : (ab_shp t0).1 = 2) (T_i1 : ∀ z, i1 = some z → (ab_shp z).1 = 1) (hf : f_X10_open t0 i1 h = some r) : ab_T mX10_open (d + 0) 0 0 0 0 0 [some (va_rf (some t0)), some (va_rf i1)] [] h (ab_Pv r) := by
  unfold f_X10_open at hf
  refine ab_aload_n (x := _) (pc2 := 1) dX10_open_0 rfl rfl ?_
  refine ab_aload_n (x := _) (pc2 := 2) dX10_open_1 rfl rfl ?_
  obtain ⟨h1, eh1, hf⟩ := ab_let_x hf
  refine ab_putR (pc2 := 5) rfl ht0 fa_X10_24 T_i1 (fun z => by cases z) dX10_open_2 rfl ?_
  refine ab_topH eh1 ?_
  refine ab_aload_n (x := _) (pc2 := 6) dX10_open_5 rfl rfl ?_
  refine ab_aload_n (x := _) (pc2 := 7) dX10_open_6 rfl rfl ?_
  obtain ⟨q2, hq2, hf⟩ := ab_bind hf
  refine ab_getI (pc2 := 10) hq2 (T_i1 q2 hq2) fa_X10_28 (by decide) dX10_open_7 rfl ?_
  obtain ⟨h3, eh3, hf⟩ := ab_let_x hf
  refine ab_putI (pc2 := 13) rfl ht0 fa_X10_34 (Or.inl rfl) (fun z => by cases z) dX10_open_10 rfl ?_
  refine ab_topH eh3 ?_
  refine ab_aload_n (x := _) (pc2 := 14) dX10_open_13 rfl rfl ?_
  refine ab_iconst (pc2 := 15) (v := 0) dX10_open_14 rfl ab_k_iconst_0 ?_
  obtain ⟨h4, eh4, hf⟩ := ab_let_x hf
  refine ab_putI (pc2 := 18) rfl ht0 fa_X10_35 (Or.inl rfl) (fun z => by cases z) dX10_open_15 rfl ?_
  refine ab_topH eh4 ?_
  cases Option.some.inj hf
  exact ab_retV dX10_open_18 rfl (Nat.le_refl _) (Nat.le_refl _) ⟨rfl, rfl⟩
set_option maxHeartbeats 4000000 in
set_option maxRecDepth 100000 in
theorem m_X10_open {d : Nat} {t0 : Nat} {i1 : Option Nat} {h : ab_HP} {r : ab_HP} (ht0 : (ab_shp t0).1 = 2) (T_i1 : ∀ z, i1 = some z → (ab_shp z).1 = 1) (hf : f_X10_open t0 i1 h = some r) : ab_MET mX10_open (d + 0) 0 0 [va_rf (some t0), va_rf i1] h (ab_Pv r) := ab_met (by decide +kernel) (by decide +kernel) (by simp [ab_lo, ab_rf1, ab_cI, ab_cJ]) (by simp [ab_lo0, ab_lo, ab_rf1, ab_cI, ab_cJ, List.replicate]) (x_X10_open ht0 T_i1 hf)
set_option maxHeartbeats 4000000 in
set_option maxRecDepth 100000 in
theorem x_X10_add {d : Nat} {t0 : Nat} {i1 : Option Nat} {h : ab_HP} {r : ab_HP} (ht0 : (ab_shp t0).1 = 2) (T_i1 : ∀ z, i1 = some z → (ab_shp z).1 = 4) (hf : f_X10_add t0 i1 h = some r) : ab_T mX10_add (d + 0) 0 0 0 0 0 [some (va_rf (some t0)), some (va_rf i1)] [] h (ab_Pv r) := by
  unfold f_X10_add at hf
  refine ab_aload_n (x := _) (pc2 := 1) dX10_add_0 rfl rfl ?_
  refine ab_nul (tgt := 36) (pc2 := 4) dX10_add_1 (by decide) rfl hf (fun hq1 hf => ?_) (fun q1 hq1 hf => ?_)
  · cases Option.some.inj hf
    exact ab_retV dX10_add_36 rfl (Nat.le_refl _) (Nat.le_refl _) ⟨rfl, rfl⟩
  · refine ab_aload_n (x := _) (pc2 := 5) dX10_add_4 rfl rfl ?_
    refine ab_getI (pc2 := 8) rfl ht0 fa_X10_35 (by decide) dX10_add_5 rfl ?_
    refine ab_aload_n (x := _) (pc2 := 9) dX10_add_8 rfl rfl ?_
    refine ab_getR (pc2 := 12) rfl ht0 fa_X10_11 dX10_add_9 rfl (fun T2 => ?_)
    obtain ⟨q3, hq3, hf⟩ := ab_bind hf
    refine ab_alen (pc2 := 13) hq3 (Or.inr (Or.inl (T2 q3 hq3))) dX10_add_12 rfl ?_
    refine ab_icmp_ge (tgt := 36) (pc2 := 16) dX10_add_13 (by decide) rfl hf (fun c4 hf => ?_) (fun c4 hf => ?_)
    · cases Option.some.inj hf
      exact ab_retV dX10_add_36 rfl (Nat.le_refl _) (Nat.le_refl _) ⟨rfl, rfl⟩
    · refine ab_aload_n (x := _) (pc2 := 17) dX10_add_16 rfl rfl ?_
      refine ab_getR (pc2 := 20) rfl ht0 fa_X10_11 dX10_add_17 rfl (fun T5 => ?_)
      refine ab_aload_n (x := _) (pc2 := 21) dX10_add_20 rfl rfl ?_
      refine ab_getI (pc2 := 24) rfl ht0 fa_X10_35 (by decide) dX10_add_21 rfl ?_
      refine ab_aload_n (x := _) (pc2 := 25) dX10_add_24 rfl rfl ?_
      obtain ⟨q6, hq6, hf⟩ := ab_bind hf
      obtain ⟨b7, hf⟩ := ab_guard hf
      obtain ⟨h8, eh8, hf⟩ := ab_let_x hf
      refine ab_aast (pc2 := 26) hq6 (T5 q6 hq6) (Or.inl rfl) T_i1 (ab_in_vp b7) dX10_add_25 rfl ?_
      refine ab_topH eh8 ?_
      refine ab_aload_n (x := _) (pc2 := 27) dX10_add_26 rfl rfl ?_
      refine ab_dup (pc2 := 28) dX10_add_27 rfl (ab_rf1 _) ?_
      refine ab_getI (pc2 := 31) rfl ht0 fa_X10_35 (by decide) dX10_add_28 rfl ?_
      refine ab_iconst (pc2 := 32) (v := 1) dX10_add_31 rfl ab_k_iconst_1 ?_
      refine ab_iadd (pc2 := 33) dX10_add_32 rfl ?_
      obtain ⟨h9, eh9, hf⟩ := ab_let_x hf
      refine ab_putI (pc2 := 36) rfl ht0 fa_X10_35 (Or.inl rfl) (fun z => by cases z) dX10_add_33 rfl ?_
      refine ab_topH eh9 ?_
      cases Option.some.inj hf
      exact ab_retV dX10_add_36 rfl (Nat.le_refl _) (Nat.le_refl _) ⟨rfl, rfl⟩
set_option maxHeartbeats 4000000 in
set_option maxRecDepth 100000 in
theorem m_X10_add {d : Nat} {t0 : Nat} {i1 : Option Nat} {h : ab_HP} {r : ab_HP} (ht0 : (ab_shp t0).1 = 2) (T_i1 : ∀ z, i1 = some z → (ab_shp z).1 = 4) (hf : f_X10_add t0 i1 h = some r) : ab_MET mX10_add (d + 0) 0 0 [va_rf (some t0), va_rf i1] h (ab_Pv r) := ab_met (by decide +kernel) (by decide +kernel) (by simp [ab_lo, ab_rf1, ab_cI, ab_cJ]) (by simp [ab_lo0, ab_lo, ab_rf1, ab_cI, ab_cJ, List.replicate]) (x_X10_add ht0 T_i1 hf)
set_option maxHeartbeats 4000000 in
set_option maxRecDepth 100000 in
theorem x_X10_begin {d : Nat} {t0 : Nat} {i1 : Int32} {i2 : Int32} {h : ab_HP} {r : ab_HP} (ht0 : (ab_shp t0).1 = 2) (hf : f_X10_begin t0 i1 i2 h = some r) : ab_T mX10_begin (d + 0) 0 0 0 0 0 [some (va_rf (some t0)), some (.int i1), some (.int i2)] [] h (ab_Pv r) := by
  unfold f_X10_begin at hf
  refine ab_aload_n (x := _) (pc2 := 1) dX10_begin_0 rfl rfl ?_
  refine ab_iload_n (pc2 := 2) dX10_begin_1 rfl rfl ?_
  obtain ⟨h1, eh1, hf⟩ := ab_let_x hf
  refine ab_putI (pc2 := 5) rfl ht0 fa_X10_38 (Or.inl rfl) (fun z => by cases z) dX10_begin_2 rfl ?_
  refine ab_topH eh1 ?_
  refine ab_aload_n (x := _) (pc2 := 6) dX10_begin_5 rfl rfl ?_
  refine ab_iload_n (pc2 := 7) dX10_begin_6 rfl rfl ?_
  obtain ⟨h2, eh2, hf⟩ := ab_let_x hf
  refine ab_putI (pc2 := 10) rfl ht0 fa_X10_41 (Or.inl rfl) (fun z => by cases z) dX10_begin_7 rfl ?_
  refine ab_topH eh2 ?_
  refine ab_aload_n (x := _) (pc2 := 11) dX10_begin_10 rfl rfl ?_
  refine ab_iconst (pc2 := 12) (v := 0) dX10_begin_11 rfl ab_k_iconst_0 ?_
  obtain ⟨h3, eh3, hf⟩ := ab_let_x hf
  refine ab_putI (pc2 := 15) rfl ht0 fa_X10_44 (Or.inl rfl) (fun z => by cases z) dX10_begin_12 rfl ?_
  refine ab_topH eh3 ?_
  refine ab_aload_n (x := _) (pc2 := 16) dX10_begin_15 rfl rfl ?_
  refine ab_iconst (pc2 := 17) (v := 0) dX10_begin_16 rfl ab_k_iconst_0 ?_
  obtain ⟨h4, eh4, hf⟩ := ab_let_x hf
  refine ab_putI (pc2 := 20) rfl ht0 fa_X10_47 (Or.inl rfl) (fun z => by cases z) dX10_begin_17 rfl ?_
  refine ab_topH eh4 ?_
  refine ab_aload_n (x := _) (pc2 := 21) dX10_begin_20 rfl rfl ?_
  refine ab_iconst (pc2 := 22) (v := 0) dX10_begin_21 rfl ab_k_iconst_0 ?_
  obtain ⟨h5, eh5, hf⟩ := ab_let_x hf
  refine ab_putI (pc2 := 25) rfl ht0 fa_X10_50 (Or.inl rfl) (fun z => by cases z) dX10_begin_22 rfl ?_
  refine ab_topH eh5 ?_
  refine ab_aload_n (x := _) (pc2 := 26) dX10_begin_25 rfl rfl ?_
  refine ab_iconst (pc2 := 27) (v := 0) dX10_begin_26 rfl ab_k_iconst_0 ?_
  obtain ⟨h6, eh6, hf⟩ := ab_let_x hf
  refine ab_putI (pc2 := 30) rfl ht0 fa_X10_53 (Or.inl rfl) (fun z => by cases z) dX10_begin_27 rfl ?_
  refine ab_topH eh6 ?_
  refine ab_aload_n (x := _) (pc2 := 31) dX10_begin_30 rfl rfl ?_
  refine ab_iconst (pc2 := 32) (v := 0) dX10_begin_31 rfl ab_k_iconst_0 ?_
  obtain ⟨h7, eh7, hf⟩ := ab_let_x hf
  refine ab_putI (pc2 := 35) rfl ht0 fa_X10_56 (Or.inl rfl) (fun z => by cases z) dX10_begin_32 rfl ?_
  refine ab_topH eh7 ?_
  refine ab_aload_n (x := _) (pc2 := 36) dX10_begin_35 rfl rfl ?_
  refine ab_iconst (pc2 := 37) (v := 0) dX10_begin_36 rfl ab_k_iconst_0 ?_
  obtain ⟨h8, eh8, hf⟩ := ab_let_x hf
  refine ab_putI (pc2 := 40) rfl ht0 fa_X10_59 (Or.inl rfl) (fun z => by cases z) dX10_begin_37 rfl ?_
  refine ab_topH eh8 ?_
  cases Option.some.inj hf
  exact ab_retV dX10_begin_40 rfl (Nat.le_refl _) (Nat.le_refl _) ⟨rfl, rfl⟩
set_option maxHeartbeats 4000000 in
set_option maxRecDepth 100000 in
theorem m_X10_begin {d : Nat} {t0 : Nat} {i1 : Int32} {i2 : Int32} {h : ab_HP} {r : ab_HP} (ht0 : (ab_shp t0).1 = 2) (hf : f_X10_begin t0 i1 i2 h = some r) : ab_MET mX10_begin (d + 0) 0 0 [va_rf (some t0), .int i1, .int i2] h (ab_Pv r) := ab_met (by decide +kernel) (by decide +kernel) (Nat.le_of_ble_eq_true rfl) rfl (x_X10_begin ht0 hf)
set_option maxHeartbeats 4000000 in
set_option maxRecDepth 100000 in
theorem x_X10_deedAt {d : Nat} {t0 : Nat} {i1 : Int32} {h : ab_HP} {r : (Option Nat)} (ht0 : (ab_shp t0).1 = 2) (hf : f_X10_deedAt t0 i1 h = some r) : ab_T mX10_deedAt (d + 0) 0 0 0 0 0 [some (va_rf (some t0)), some (.int i1)] [] h (ab_Pr 4 r h) := by
  unfold f_X10_deedAt at hf
  refine ab_iload_n (pc2 := 1) dX10_deedAt_0 rfl rfl ?_
  refine ab_if_lt (tgt := 30) (pc2 := 4) dX10_deedAt_1 (by decide) rfl hf (fun c1 hf => ?_) (fun c1 hf => ?_)
  · refine ab_null (pc2 := 31) dX10_deedAt_30 rfl ?_
    cases Option.some.inj hf
    exact ab_retA dX10_deedAt_31 ⟨_, rfl⟩ (Nat.le_refl _) (Nat.le_refl _) ⟨rfl, rfl, (fun z hz => by cases hz)⟩
  · refine ab_iload_n (pc2 := 5) dX10_deedAt_4 rfl rfl ?_
    refine ab_aload_n (x := _) (pc2 := 6) dX10_deedAt_5 rfl rfl ?_
    refine ab_getI (pc2 := 9) rfl ht0 fa_X10_35 (by decide) dX10_deedAt_6 rfl ?_
    refine ab_icmp_ge (tgt := 30) (pc2 := 12) dX10_deedAt_9 (by decide) rfl hf (fun c2 hf => ?_) (fun c2 hf => ?_)
    · refine ab_null (pc2 := 31) dX10_deedAt_30 rfl ?_
      cases Option.some.inj hf
      exact ab_retA dX10_deedAt_31 ⟨_, rfl⟩ (Nat.le_refl _) (Nat.le_refl _) ⟨rfl, rfl, (fun z hz => by cases hz)⟩
    · refine ab_iload_n (pc2 := 13) dX10_deedAt_12 rfl rfl ?_
      refine ab_aload_n (x := _) (pc2 := 14) dX10_deedAt_13 rfl rfl ?_
      refine ab_getR (pc2 := 17) rfl ht0 fa_X10_11 dX10_deedAt_14 rfl (fun T3 => ?_)
      obtain ⟨q4, hq4, hf⟩ := ab_bind hf
      refine ab_alen (pc2 := 18) hq4 (Or.inr (Or.inl (T3 q4 hq4))) dX10_deedAt_17 rfl ?_
      refine ab_icmp_ge (tgt := 30) (pc2 := 21) dX10_deedAt_18 (by decide) rfl hf (fun c5 hf => ?_) (fun c5 hf => ?_)
      · refine ab_null (pc2 := 31) dX10_deedAt_30 rfl ?_
        cases Option.some.inj hf
        exact ab_retA dX10_deedAt_31 ⟨_, rfl⟩ (Nat.le_refl _) (Nat.le_refl _) ⟨rfl, rfl, (fun z hz => by cases hz)⟩
      · refine ab_aload_n (x := _) (pc2 := 22) dX10_deedAt_21 rfl rfl ?_
        refine ab_getR (pc2 := 25) rfl ht0 fa_X10_11 dX10_deedAt_22 rfl (fun T6 => ?_)
        refine ab_iload_n (pc2 := 26) dX10_deedAt_25 rfl rfl ?_
        obtain ⟨q7, hq7, hf⟩ := ab_bind hf
        obtain ⟨b8, hf⟩ := ab_guard hf
        refine ab_aald (pc2 := 27) hq7 (T6 q7 hq7) (Or.inl rfl) (ab_in_vp b8) dX10_deedAt_26 rfl (fun T9 => ?_)
        refine ab_goto (tgt := 31) dX10_deedAt_27 (by decide) ?_
        cases Option.some.inj hf
        exact ab_retA dX10_deedAt_31 ⟨_, rfl⟩ (Nat.le_refl _) (Nat.le_refl _) ⟨rfl, rfl, T9⟩
set_option maxHeartbeats 4000000 in
set_option maxRecDepth 100000 in
theorem m_X10_deedAt {d : Nat} {t0 : Nat} {i1 : Int32} {h : ab_HP} {r : (Option Nat)} (ht0 : (ab_shp t0).1 = 2) (hf : f_X10_deedAt t0 i1 h = some r) : ab_MET mX10_deedAt (d + 0) 0 0 [va_rf (some t0), .int i1] h (ab_Pr 4 r h) := ab_met (by decide +kernel) (by decide +kernel) (Nat.le_of_ble_eq_true rfl) rfl (x_X10_deedAt ht0 hf)
set_option maxHeartbeats 4000000 in
set_option maxRecDepth 100000 in
theorem x_X1_marksBehind {d : Nat} {t0 : Nat} {i1 : Int32} {h : ab_HP} {r : Int32} (ht0 : (ab_shp t0).1 = 4) (hf : f_X1_marksBehind t0 i1 h = some r) : ab_T mX1_marksBehind (d + 0) 0 0 0 0 0 [some (va_rf (some t0)), some (.int i1)] [] h (ab_Pi r h) := by
  unfold f_X1_marksBehind at hf
  refine ab_iload_n (pc2 := 1) dX1_marksBehind_0 rfl rfl ?_
  refine ab_aload_n (x := _) (pc2 := 2) dX1_marksBehind_1 rfl rfl ?_
  refine ab_getI (pc2 := 5) rfl ht0 fa_X1_39 (by decide) dX1_marksBehind_2 rfl ?_
  refine ab_ior (pc2 := 6) dX1_marksBehind_5 rfl ?_
  refine ab_aload_n (x := _) (pc2 := 7) dX1_marksBehind_6 rfl rfl ?_
  refine ab_getI (pc2 := 10) rfl ht0 fa_X1_53 (by decide) dX1_marksBehind_7 rfl ?_
  refine ab_iconst (pc2 := 11) (v := (-1)) dX1_marksBehind_10 rfl ab_k_iconst_m1 ?_
  refine ab_ixor (pc2 := 12) dX1_marksBehind_11 rfl ?_
  refine ab_iand (pc2 := 13) dX1_marksBehind_12 rfl ?_
  cases Option.some.inj hf
  exact ab_retI dX1_marksBehind_13 (Or.inl rfl) (Nat.le_refl _) (Nat.le_refl _) ⟨rfl, rfl⟩
set_option maxHeartbeats 4000000 in
set_option maxRecDepth 100000 in
theorem m_X1_marksBehind {d : Nat} {t0 : Nat} {i1 : Int32} {h : ab_HP} {r : Int32} (ht0 : (ab_shp t0).1 = 4) (hf : f_X1_marksBehind t0 i1 h = some r) : ab_MET mX1_marksBehind (d + 0) 0 0 [va_rf (some t0), .int i1] h (ab_Pi r h) := ab_met (by decide +kernel) (by decide +kernel) (Nat.le_of_ble_eq_true rfl) rfl (x_X1_marksBehind ht0 hf)
set_option maxHeartbeats 4000000 in
set_option maxRecDepth 100000 in
theorem x_X11_store {d : Nat} {i0 : Option Nat} {i1 : Int32} {i2 : Int32} {h : ab_HP} {r : ab_HP} (T_i0 : ∀ z, i0 = some z → (ab_shp z).1 = 6) (hf : f_X11_store i0 i1 i2 h = some r) : ab_T mX11_store (d + 0) 0 0 0 0 0 [some (va_rf i0), some (.int i1), some (.int i2)] [] h (ab_Pv r) := by
  unfold f_X11_store at hf
  refine ab_iload_n (pc2 := 1) dX11_store_0 rfl rfl ?_
  refine ab_if_lt (tgt := 14) (pc2 := 4) dX11_store_1 (by decide) rfl hf (fun c1 hf => ?_) (fun c1 hf => ?_)
  · cases Option.some.inj hf
    exact ab_retV dX11_store_14 rfl (Nat.le_refl _) (Nat.le_refl _) ⟨rfl, rfl⟩
  · refine ab_iload_n (pc2 := 5) dX11_store_4 rfl rfl ?_
    refine ab_aload_n (x := _) (pc2 := 6) dX11_store_5 rfl rfl ?_
    obtain ⟨q2, hq2, hf⟩ := ab_bind hf
    refine ab_alen (pc2 := 7) hq2 (Or.inl (T_i0 q2 hq2)) dX11_store_6 rfl ?_
    refine ab_icmp_ge (tgt := 14) (pc2 := 10) dX11_store_7 (by decide) rfl hf (fun c3 hf => ?_) (fun c3 hf => ?_)
    · cases Option.some.inj hf
      exact ab_retV dX11_store_14 rfl (Nat.le_refl _) (Nat.le_refl _) ⟨rfl, rfl⟩
    · refine ab_aload_n (x := _) (pc2 := 11) dX11_store_10 rfl rfl ?_
      refine ab_iload_n (pc2 := 12) dX11_store_11 rfl rfl ?_
      refine ab_iload_n (pc2 := 13) dX11_store_12 rfl rfl ?_
      obtain ⟨b4, hf⟩ := ab_guard hf
      obtain ⟨h5, eh5, hf⟩ := ab_let_x hf
      refine ab_iast (pc2 := 14) hq2 (T_i0 q2 hq2) (ab_in_vp b4) dX11_store_13 rfl ?_
      refine ab_topH eh5 ?_
      cases Option.some.inj hf
      exact ab_retV dX11_store_14 rfl (Nat.le_refl _) (Nat.le_refl _) ⟨rfl, rfl⟩
set_option maxHeartbeats 4000000 in
set_option maxRecDepth 100000 in
theorem m_X11_store {d : Nat} {i0 : Option Nat} {i1 : Int32} {i2 : Int32} {h : ab_HP} {r : ab_HP} (T_i0 : ∀ z, i0 = some z → (ab_shp z).1 = 6) (hf : f_X11_store i0 i1 i2 h = some r) : ab_MET mX11_store (d + 0) 0 0 [va_rf i0, .int i1, .int i2] h (ab_Pv r) := ab_met (by decide +kernel) (by decide +kernel) (by simp [ab_lo, ab_rf1, ab_cI, ab_cJ]) (by simp [ab_lo0, ab_lo, ab_rf1, ab_cI, ab_cJ, List.replicate]) (x_X11_store T_i0 hf)
set_option maxHeartbeats 4000000 in
set_option maxRecDepth 100000 in
theorem x_X10_has {d : Nat} {i0 : Int32} {i1 : Int32} {h : ab_HP} {r : Int32}  (hf : f_X10_has i0 i1 h = some r) : ab_T mX10_has (d + 0) 0 0 0 0 0 [some (.int i0), some (.int i1)] [] h (ab_Pb r h) := by
  unfold f_X10_has at hf
  refine ab_iload_n (pc2 := 1) dX10_has_0 rfl rfl ?_
  refine ab_iload_n (pc2 := 2) dX10_has_1 rfl rfl ?_
  refine ab_ishr (pc2 := 3) dX10_has_2 rfl ?_
  refine ab_iconst (pc2 := 4) (v := 1) dX10_has_3 rfl ab_k_iconst_1 ?_
  refine ab_iand (pc2 := 5) dX10_has_4 rfl ?_
  refine ab_if_eq (tgt := 12) (pc2 := 8) dX10_has_5 (by decide) rfl hf (fun c1 hf => ?_) (fun c1 hf => ?_)
  · refine ab_iconst (pc2 := 13) (v := 0) dX10_has_12 rfl ab_k_iconst_0 ?_
    cases Option.some.inj hf
    exact ab_retI dX10_has_13 (Or.inr ⟨rfl, (Or.inl rfl)⟩) (Nat.le_refl _) (Nat.le_refl _) ⟨rfl, rfl, (Or.inl rfl)⟩
  · refine ab_iconst (pc2 := 9) (v := 1) dX10_has_8 rfl ab_k_iconst_1 ?_
    refine ab_goto (tgt := 13) dX10_has_9 (by decide) ?_
    cases Option.some.inj hf
    exact ab_retI dX10_has_13 (Or.inr ⟨rfl, (Or.inr rfl)⟩) (Nat.le_refl _) (Nat.le_refl _) ⟨rfl, rfl, (Or.inr rfl)⟩
set_option maxHeartbeats 4000000 in
set_option maxRecDepth 100000 in
theorem m_X10_has {d : Nat} {i0 : Int32} {i1 : Int32} {h : ab_HP} {r : Int32}  (hf : f_X10_has i0 i1 h = some r) : ab_MET mX10_has (d + 0) 0 0 [.int i0, .int i1] h (ab_Pb r h) := ab_met (by decide +kernel) (by decide +kernel) (Nat.le_of_ble_eq_true rfl) rfl (x_X10_has  hf)
set_option maxHeartbeats 4000000 in
set_option maxRecDepth 100000 in
theorem x_X9_nailCost {d : Nat} {t0 : Nat} {i1 : Int32} {h : ab_HP} {r : Int32} (ht0 : (ab_shp t0).1 = 1) (hf : f_X9_nailCost t0 i1 h = some r) : ab_T mX9_nailCost (d + 0) 0 0 0 0 0 [some (va_rf (some t0)), some (.int i1), none] [] h (ab_Pi r h) := by
  unfold f_X9_nailCost at hf
  refine ab_aload_n (x := _) (pc2 := 1) dX9_nailCost_0 rfl rfl ?_
  refine ab_getI (pc2 := 4) rfl ht0 fa_X9_21 (by decide) dX9_nailCost_1 rfl ?_
  refine ab_iload_n (pc2 := 5) dX9_nailCost_4 rfl rfl ?_
  refine ab_aload_n (x := _) (pc2 := 6) dX9_nailCost_5 rfl rfl ?_
  refine ab_getI (pc2 := 9) rfl ht0 fa_X9_37 (by decide) dX9_nailCost_6 rfl ?_
  refine ab_imul (pc2 := 10) dX9_nailCost_9 rfl ?_
  refine ab_iadd (pc2 := 11) dX9_nailCost_10 rfl ?_
  refine ab_istore_n (pc2 := 12) (lo2 := [some (va_rf _), some (.int _), some (.int _)]) dX9_nailCost_11 rfl (by decide) rfl ?_
  refine ab_iload_n (pc2 := 13) dX9_nailCost_12 rfl rfl ?_
  refine ab_if_ge (tgt := 20) (pc2 := 16) dX9_nailCost_13 (by decide) rfl hf (fun c1 hf => ?_) (fun c1 hf => ?_)
  · refine ab_iload_n (pc2 := 21) dX9_nailCost_20 rfl rfl ?_
    cases Option.some.inj hf
    exact ab_retI dX9_nailCost_21 (Or.inl rfl) (Nat.le_refl _) (Nat.le_refl _) ⟨rfl, rfl⟩
  · refine ab_iconst (pc2 := 17) (v := 0) dX9_nailCost_16 rfl ab_k_iconst_0 ?_
    refine ab_goto (tgt := 21) dX9_nailCost_17 (by decide) ?_
    cases Option.some.inj hf
    exact ab_retI dX9_nailCost_21 (Or.inl rfl) (Nat.le_refl _) (Nat.le_refl _) ⟨rfl, rfl⟩
set_option maxHeartbeats 4000000 in
set_option maxRecDepth 100000 in
theorem m_X9_nailCost {d : Nat} {t0 : Nat} {i1 : Int32} {h : ab_HP} {r : Int32} (ht0 : (ab_shp t0).1 = 1) (hf : f_X9_nailCost t0 i1 h = some r) : ab_MET mX9_nailCost (d + 0) 0 0 [va_rf (some t0), .int i1] h (ab_Pi r h) := ab_met (by decide +kernel) (by decide +kernel) (Nat.le_of_ble_eq_true rfl) rfl (x_X9_nailCost ht0 hf)
set_option maxHeartbeats 4000000 in
set_option maxRecDepth 100000 in
theorem x_X10_nailAt {d : Nat} {t0 : Nat} {i1 : Int32} {h : ab_HP} {r : ab_HP} (ht0 : (ab_shp t0).1 = 2) (hf : f_X10_nailAt t0 i1 h = some r) : ab_T mX10_nailAt (d + 1) 0 0 0 0 0 [some (va_rf (some t0)), some (.int i1), none] [] h (ab_Pv r) := by
  unfold f_X10_nailAt at hf
  refine ab_aload_n (x := _) (pc2 := 1) dX10_nailAt_0 rfl rfl ?_
  refine ab_getR (pc2 := 4) rfl ht0 fa_X10_24 dX10_nailAt_1 rfl (fun T1 => ?_)
  refine ab_nnul (tgt := 11) (pc2 := 7) dX10_nailAt_4 (by decide) rfl hf (fun hq2 hf => ?_) (fun q2 hq2 hf => ?_)
  · refine ab_iconst (pc2 := 8) (v := 0) dX10_nailAt_7 rfl ab_k_iconst_0 ?_
    refine ab_goto (tgt := 19) dX10_nailAt_8 (by decide) ?_
    refine ab_istore_n (pc2 := 20) (lo2 := [some (va_rf _), some (.int _), some (.int _)]) dX10_nailAt_19 rfl (by decide) rfl ?_
    refine ab_aload_n (x := _) (pc2 := 21) dX10_nailAt_20 rfl rfl ?_
    refine ab_getI (pc2 := 24) rfl ht0 fa_X10_41 (by decide) dX10_nailAt_21 rfl ?_
    refine ab_iload_n (pc2 := 25) dX10_nailAt_24 rfl rfl ?_
    refine ab_icmp_lt (tgt := 72) (pc2 := 28) dX10_nailAt_25 (by decide) rfl hf (fun c3 hf => ?_) (fun c3 hf => ?_)
    · cases Option.some.inj hf
      exact ab_retV dX10_nailAt_72 rfl (Nat.le_refl _) (Nat.le_refl _) ⟨rfl, rfl⟩
    · refine ab_aload_n (x := _) (pc2 := 29) dX10_nailAt_28 rfl rfl ?_
      refine ab_dup (pc2 := 30) dX10_nailAt_29 rfl (ab_rf1 _) ?_
      refine ab_getI (pc2 := 33) rfl ht0 fa_X10_41 (by decide) dX10_nailAt_30 rfl ?_
      refine ab_iload_n (pc2 := 34) dX10_nailAt_33 rfl rfl ?_
      refine ab_isub (pc2 := 35) dX10_nailAt_34 rfl ?_
      obtain ⟨h4, eh4, hf⟩ := ab_let_x hf
      refine ab_putI (pc2 := 38) rfl ht0 fa_X10_41 (Or.inl rfl) (fun z => by cases z) dX10_nailAt_35 rfl ?_
      refine ab_topH eh4 ?_
      refine ab_aload_n (x := _) (pc2 := 39) dX10_nailAt_38 rfl rfl ?_
      refine ab_dup (pc2 := 40) dX10_nailAt_39 rfl (ab_rf1 _) ?_
      refine ab_getI (pc2 := 43) rfl ht0 fa_X10_44 (by decide) dX10_nailAt_40 rfl ?_
      refine ab_iload_n (pc2 := 44) dX10_nailAt_43 rfl rfl ?_
      refine ab_iadd (pc2 := 45) dX10_nailAt_44 rfl ?_
      obtain ⟨h5, eh5, hf⟩ := ab_let_x hf
      refine ab_putI (pc2 := 48) rfl ht0 fa_X10_44 (Or.inl rfl) (fun z => by cases z) dX10_nailAt_45 rfl ?_
      refine ab_topH eh5 ?_
      refine ab_aload_n (x := _) (pc2 := 49) dX10_nailAt_48 rfl rfl ?_
      refine ab_dup (pc2 := 50) dX10_nailAt_49 rfl (ab_rf1 _) ?_
      refine ab_getI (pc2 := 53) rfl ht0 fa_X10_53 (by decide) dX10_nailAt_50 rfl ?_
      refine ab_iconst (pc2 := 54) (v := 1) dX10_nailAt_53 rfl ab_k_iconst_1 ?_
      refine ab_iload_n (pc2 := 55) dX10_nailAt_54 rfl rfl ?_
      refine ab_ishl (pc2 := 56) dX10_nailAt_55 rfl ?_
      refine ab_ior (pc2 := 57) dX10_nailAt_56 rfl ?_
      obtain ⟨h6, eh6, hf⟩ := ab_let_x hf
      refine ab_putI (pc2 := 60) rfl ht0 fa_X10_53 (Or.inl rfl) (fun z => by cases z) dX10_nailAt_57 rfl ?_
      refine ab_topH eh6 ?_
      refine ab_aload_n (x := _) (pc2 := 61) dX10_nailAt_60 rfl rfl ?_
      refine ab_dup (pc2 := 62) dX10_nailAt_61 rfl (ab_rf1 _) ?_
      refine ab_getI (pc2 := 65) rfl ht0 fa_X10_56 (by decide) dX10_nailAt_62 rfl ?_
      refine ab_iconst (pc2 := 66) (v := 1) dX10_nailAt_65 rfl ab_k_iconst_1 ?_
      refine ab_iload_n (pc2 := 67) dX10_nailAt_66 rfl rfl ?_
      refine ab_ishl (pc2 := 68) dX10_nailAt_67 rfl ?_
      refine ab_ior (pc2 := 69) dX10_nailAt_68 rfl ?_
      obtain ⟨h7, eh7, hf⟩ := ab_let_x hf
      refine ab_putI (pc2 := 72) rfl ht0 fa_X10_56 (Or.inl rfl) (fun z => by cases z) dX10_nailAt_69 rfl ?_
      refine ab_topH eh7 ?_
      cases Option.some.inj hf
      exact ab_retV dX10_nailAt_72 rfl (Nat.le_refl _) (Nat.le_refl _) ⟨rfl, rfl⟩
  · refine ab_aload_n (x := _) (pc2 := 12) dX10_nailAt_11 rfl rfl ?_
    refine ab_getR (pc2 := 15) rfl ht0 fa_X10_24 dX10_nailAt_12 rfl (fun T8 => ?_)
    refine ab_iload_n (pc2 := 16) dX10_nailAt_15 rfl rfl ?_
    obtain ⟨q9, hq9, hf⟩ := ab_bind hf
    obtain ⟨w10, ew10, hf⟩ := ab_bind hf
    refine ab_callV (pc2 := 19) (st := []) hq9 (T8 q9 hq9) (by decide) (m_X9_nailCost (d := (d + 0)) (T8 q9 hq9) ew10) mf_X9_nailCost tw_162 tw_161 ts_X9_nailCost (Or.inl (by decide +kernel)) dX10_nailAt_16 rfl (by omega) (Nat.le_refl _) (Nat.le_refl _) rfl (Nat.le_of_ble_eq_true rfl) (ab_kPi ?_)
    refine ab_istore_n (pc2 := 20) (lo2 := [some (va_rf _), some (.int _), some (.int _)]) dX10_nailAt_19 rfl (by decide) rfl ?_
    refine ab_aload_n (x := _) (pc2 := 21) dX10_nailAt_20 rfl rfl ?_
    refine ab_getI (pc2 := 24) rfl ht0 fa_X10_41 (by decide) dX10_nailAt_21 rfl ?_
    refine ab_iload_n (pc2 := 25) dX10_nailAt_24 rfl rfl ?_
    refine ab_icmp_lt (tgt := 72) (pc2 := 28) dX10_nailAt_25 (by decide) rfl hf (fun c11 hf => ?_) (fun c11 hf => ?_)
    · cases Option.some.inj hf
      exact ab_retV dX10_nailAt_72 rfl (Nat.le_refl _) (Nat.le_refl _) ⟨rfl, rfl⟩
    · refine ab_aload_n (x := _) (pc2 := 29) dX10_nailAt_28 rfl rfl ?_
      refine ab_dup (pc2 := 30) dX10_nailAt_29 rfl (ab_rf1 _) ?_
      refine ab_getI (pc2 := 33) rfl ht0 fa_X10_41 (by decide) dX10_nailAt_30 rfl ?_
      refine ab_iload_n (pc2 := 34) dX10_nailAt_33 rfl rfl ?_
      refine ab_isub (pc2 := 35) dX10_nailAt_34 rfl ?_
      obtain ⟨h12, eh12, hf⟩ := ab_let_x hf
      refine ab_putI (pc2 := 38) rfl ht0 fa_X10_41 (Or.inl rfl) (fun z => by cases z) dX10_nailAt_35 rfl ?_
      refine ab_topH eh12 ?_
      refine ab_aload_n (x := _) (pc2 := 39) dX10_nailAt_38 rfl rfl ?_
      refine ab_dup (pc2 := 40) dX10_nailAt_39 rfl (ab_rf1 _) ?_
      refine ab_getI (pc2 := 43) rfl ht0 fa_X10_44 (by decide) dX10_nailAt_40 rfl ?_
      refine ab_iload_n (pc2 := 44) dX10_nailAt_43 rfl rfl ?_
      refine ab_iadd (pc2 := 45) dX10_nailAt_44 rfl ?_
      obtain ⟨h13, eh13, hf⟩ := ab_let_x hf
      refine ab_putI (pc2 := 48) rfl ht0 fa_X10_44 (Or.inl rfl) (fun z => by cases z) dX10_nailAt_45 rfl ?_
      refine ab_topH eh13 ?_
      refine ab_aload_n (x := _) (pc2 := 49) dX10_nailAt_48 rfl rfl ?_
      refine ab_dup (pc2 := 50) dX10_nailAt_49 rfl (ab_rf1 _) ?_
      refine ab_getI (pc2 := 53) rfl ht0 fa_X10_53 (by decide) dX10_nailAt_50 rfl ?_
      refine ab_iconst (pc2 := 54) (v := 1) dX10_nailAt_53 rfl ab_k_iconst_1 ?_
      refine ab_iload_n (pc2 := 55) dX10_nailAt_54 rfl rfl ?_
      refine ab_ishl (pc2 := 56) dX10_nailAt_55 rfl ?_
      refine ab_ior (pc2 := 57) dX10_nailAt_56 rfl ?_
      obtain ⟨h14, eh14, hf⟩ := ab_let_x hf
      refine ab_putI (pc2 := 60) rfl ht0 fa_X10_53 (Or.inl rfl) (fun z => by cases z) dX10_nailAt_57 rfl ?_
      refine ab_topH eh14 ?_
      refine ab_aload_n (x := _) (pc2 := 61) dX10_nailAt_60 rfl rfl ?_
      refine ab_dup (pc2 := 62) dX10_nailAt_61 rfl (ab_rf1 _) ?_
      refine ab_getI (pc2 := 65) rfl ht0 fa_X10_56 (by decide) dX10_nailAt_62 rfl ?_
      refine ab_iconst (pc2 := 66) (v := 1) dX10_nailAt_65 rfl ab_k_iconst_1 ?_
      refine ab_iload_n (pc2 := 67) dX10_nailAt_66 rfl rfl ?_
      refine ab_ishl (pc2 := 68) dX10_nailAt_67 rfl ?_
      refine ab_ior (pc2 := 69) dX10_nailAt_68 rfl ?_
      obtain ⟨h15, eh15, hf⟩ := ab_let_x hf
      refine ab_putI (pc2 := 72) rfl ht0 fa_X10_56 (Or.inl rfl) (fun z => by cases z) dX10_nailAt_69 rfl ?_
      refine ab_topH eh15 ?_
      cases Option.some.inj hf
      exact ab_retV dX10_nailAt_72 rfl (Nat.le_refl _) (Nat.le_refl _) ⟨rfl, rfl⟩
set_option maxHeartbeats 4000000 in
set_option maxRecDepth 100000 in
theorem m_X10_nailAt {d : Nat} {t0 : Nat} {i1 : Int32} {h : ab_HP} {r : ab_HP} (ht0 : (ab_shp t0).1 = 2) (hf : f_X10_nailAt t0 i1 h = some r) : ab_MET mX10_nailAt (d + 1) 0 0 [va_rf (some t0), .int i1] h (ab_Pv r) := ab_met (by decide +kernel) (by decide +kernel) (Nat.le_of_ble_eq_true rfl) rfl (x_X10_nailAt ht0 hf)
set_option maxHeartbeats 4000000 in
set_option maxRecDepth 100000 in
theorem x_X10_evenPlace_b120 {d : Nat} {t0 : Nat} {i1 : Int32} {i2 : Int32} {h : ab_HP} {r : ab_HP} (ht0 : (ab_shp t0).1 = 2) (hf : f_X10_evenPlace_b120 t0 i1 i2 h = some r) : ab_T mX10_evenPlace (d + 2) 0 0 0 0 120 [some (va_rf (some t0)), some (.int i1), some (.int i2), none, none] [] h (ab_Pv r) := by
  unfold f_X10_evenPlace_b120 at hf
  refine ab_iload_n (pc2 := 121) dX10_evenPlace_120 rfl rfl ?_
  refine ab_iload_n (pc2 := 122) dX10_evenPlace_121 rfl rfl ?_
  obtain ⟨w17, ew17, hf⟩ := ab_bind hf
  refine ab_callS (pc2 := 125) (st := []) (m_X10_has (d := (d + 1)) ew17) mf_X10_has tw_170 tw_171 dX10_evenPlace_122 rfl (by omega) (Nat.le_refl _) (Nat.le_refl _) rfl (Nat.le_of_ble_eq_true rfl) (ab_kPb fun z18 => ?_)
  refine ab_if_eq (tgt := 133) (pc2 := 128) dX10_evenPlace_125 (by decide) rfl hf (fun c19 hf => ?_) (fun c19 hf => ?_)
  · cases Option.some.inj hf
    exact ab_retV dX10_evenPlace_133 rfl (Nat.le_refl _) (Nat.le_refl _) ⟨rfl, rfl⟩
  · refine ab_aload_n (x := _) (pc2 := 129) dX10_evenPlace_128 rfl rfl ?_
    refine ab_iload_n (pc2 := 130) dX10_evenPlace_129 rfl rfl ?_
    obtain ⟨w20, ew20, hf⟩ := ab_bind hf
    refine ab_callV (pc2 := 133) (st := []) rfl ht0 (by decide) (m_X10_nailAt (d := (d + 0)) ht0 ew20) mf_X10_nailAt tw_173 tw_172 ts_X10_nailAt (Or.inl (by decide +kernel)) dX10_evenPlace_130 rfl (by omega) (Nat.le_refl _) (Nat.le_refl _) rfl (Nat.le_of_ble_eq_true rfl) (ab_kPv ?_)
    cases Option.some.inj hf
    exact ab_retV dX10_evenPlace_133 rfl (Nat.le_refl _) (Nat.le_refl _) ⟨rfl, rfl⟩
set_option maxHeartbeats 4000000 in
set_option maxRecDepth 100000 in
theorem x_X10_evenPlace {d : Nat} {t0 : Nat} {i1 : Int32} {i2 : Int32} {h : ab_HP} {r : ab_HP} (ht0 : (ab_shp t0).1 = 2) (hf : f_X10_evenPlace t0 i1 i2 h = some r) : ab_T mX10_evenPlace (d + 2) 0 0 0 0 0 [some (va_rf (some t0)), some (.int i1), some (.int i2), none, none] [] h (ab_Pv r) := by
  unfold f_X10_evenPlace at hf
  refine ab_aload_n (x := _) (pc2 := 1) dX10_evenPlace_0 rfl rfl ?_
  refine ab_iload_n (pc2 := 2) dX10_evenPlace_1 rfl rfl ?_
  obtain ⟨w1, ew1, hf⟩ := ab_bind hf
  refine ab_callV (pc2 := 5) (st := []) rfl ht0 (by decide) (m_X10_deedAt (d := (d + 1)) ht0 ew1) mf_X10_deedAt tw_164 tw_163 ts_X10_deedAt (Or.inl (by decide +kernel)) dX10_evenPlace_2 rfl (by omega) (Nat.le_refl _) (Nat.le_refl _) rfl (Nat.le_of_ble_eq_true rfl) (ab_kPr fun T2 => ?_)
  refine ab_astore_n (pc2 := 6) (lo2 := [some (va_rf _), some (.int _), some (.int _), some (va_rf _), none]) dX10_evenPlace_5 rfl (by decide) rfl ?_
  refine ab_aload_n (x := _) (pc2 := 7) dX10_evenPlace_6 rfl rfl ?_
  refine ab_nul (tgt := 25) (pc2 := 10) dX10_evenPlace_7 (by decide) rfl hf (fun hq3 hf => ?_) (fun q3 hq3 hf => ?_)
  · cases Option.some.inj hf
    exact ab_retV dX10_evenPlace_25 rfl (Nat.le_refl _) (Nat.le_refl _) ⟨rfl, rfl⟩
  · refine ab_aload_n (x := _) (pc2 := 11) dX10_evenPlace_10 rfl rfl ?_
    refine ab_aload_n (x := _) (pc2 := 12) dX10_evenPlace_11 rfl rfl ?_
    refine ab_getI (pc2 := 15) rfl ht0 fa_X10_38 (by decide) dX10_evenPlace_12 rfl ?_
    refine ab_aload_n (x := _) (pc2 := 16) dX10_evenPlace_15 rfl rfl ?_
    refine ab_getI (pc2 := 19) rfl ht0 fa_X10_41 (by decide) dX10_evenPlace_16 rfl ?_
    obtain ⟨w4, ew4, hf⟩ := ab_bind hf
    refine ab_callV (pc2 := 22) (st := []) hq3 (T2 q3 hq3) (by decide) (m_X1_mayBeDone (d := (d + 0)) (T2 q3 hq3) ew4) mf_X1_mayBeDone tw_165 tw_149 ts_X1_mayBeDone (Or.inr tw_150) dX10_evenPlace_19 rfl (by omega) (Nat.le_refl _) (Nat.le_refl _) rfl (Nat.le_of_ble_eq_true rfl) (ab_kPb fun z5 => ?_)
    refine ab_if_ne (tgt := 26) (pc2 := 25) dX10_evenPlace_22 (by decide) rfl hf (fun c6 hf => ?_) (fun c6 hf => ?_)
    · refine ab_aload_n (x := _) (pc2 := 27) dX10_evenPlace_26 rfl rfl ?_
      refine ab_aload_n (x := _) (pc2 := 28) dX10_evenPlace_27 rfl rfl ?_
      refine ab_getI (pc2 := 31) rfl ht0 fa_X10_38 (by decide) dX10_evenPlace_28 rfl ?_
      obtain ⟨w7, ew7, hf⟩ := ab_bind hf
      refine ab_callV (pc2 := 34) (st := []) hq3 (T2 q3 hq3) (by decide) (m_X1_marksBehind (d := (d + 1)) (T2 q3 hq3) ew7) mf_X1_marksBehind tw_168 tw_166 ts_X1_marksBehind (Or.inr tw_167) dX10_evenPlace_31 rfl (by omega) (Nat.le_refl _) (Nat.le_refl _) rfl (Nat.le_of_ble_eq_true rfl) (ab_kPi ?_)
      refine ab_istore (pc2 := 36) (lo2 := [some (va_rf _), some (.int _), some (.int _), some (va_rf _), some (.int _)]) dX10_evenPlace_34 rfl (by decide) (ab_st1_rf (j := 3) rfl rfl) ?_
      refine ab_aload_n (x := _) (pc2 := 37) dX10_evenPlace_36 rfl rfl ?_
      refine ab_getR (pc2 := 40) rfl ht0 fa_X10_17 dX10_evenPlace_37 rfl (fun T8 => ?_)
      refine ab_iload_n (pc2 := 41) dX10_evenPlace_40 rfl rfl ?_
      refine ab_iload (pc2 := 43) dX10_evenPlace_41 rfl rfl ?_
      refine ab_aload_n (x := _) (pc2 := 44) dX10_evenPlace_43 rfl rfl ?_
      refine ab_getI (pc2 := 47) rfl ht0 fa_X10_38 (by decide) dX10_evenPlace_44 rfl ?_
      refine ab_iconst (pc2 := 48) (v := (-1)) dX10_evenPlace_47 rfl ab_k_iconst_m1 ?_
      refine ab_ixor (pc2 := 49) dX10_evenPlace_48 rfl ?_
      refine ab_iand (pc2 := 50) dX10_evenPlace_49 rfl ?_
      obtain ⟨w9, ew9, hf⟩ := ab_bind hf
      refine ab_callSN (pc2 := 53) (st := []) (m_X11_store (d := (d + 1)) T8 ew9) mf_X11_store tn_X10_90 tw_169 dX10_evenPlace_50 rfl (by omega) (Nat.le_refl _) (Nat.le_refl _) rfl (Nat.le_of_ble_eq_true rfl) (ab_kPv ?_)
      refine ab_aload_n (x := _) (pc2 := 54) dX10_evenPlace_53 rfl rfl ?_
      refine ab_getR (pc2 := 57) rfl ht0 fa_X10_21 dX10_evenPlace_54 rfl (fun T10 => ?_)
      refine ab_iload_n (pc2 := 58) dX10_evenPlace_57 rfl rfl ?_
      refine ab_aload_n (x := _) (pc2 := 59) dX10_evenPlace_58 rfl rfl ?_
      refine ab_getI (pc2 := 62) rfl ht0 fa_X10_38 (by decide) dX10_evenPlace_59 rfl ?_
      refine ab_iload (pc2 := 64) dX10_evenPlace_62 rfl rfl ?_
      refine ab_iconst (pc2 := 65) (v := (-1)) dX10_evenPlace_64 rfl ab_k_iconst_m1 ?_
      refine ab_ixor (pc2 := 66) dX10_evenPlace_65 rfl ?_
      refine ab_iand (pc2 := 67) dX10_evenPlace_66 rfl ?_
      obtain ⟨w11, ew11, hf⟩ := ab_bind hf
      refine ab_callSN (pc2 := 70) (st := []) (m_X11_store (d := (d + 1)) T10 ew11) mf_X11_store tn_X10_90 tw_169 dX10_evenPlace_67 rfl (by omega) (Nat.le_refl _) (Nat.le_refl _) rfl (Nat.le_of_ble_eq_true rfl) (ab_kPv ?_)
      refine ab_aload_n (x := _) (pc2 := 71) dX10_evenPlace_70 rfl rfl ?_
      refine ab_iload (pc2 := 73) dX10_evenPlace_71 rfl rfl ?_
      obtain ⟨h12, eh12, hf⟩ := ab_let_x hf
      refine ab_putI (pc2 := 76) rfl ht0 fa_X10_38 (Or.inl rfl) (fun z => by cases z) dX10_evenPlace_73 rfl ?_
      refine ab_topH eh12 ?_
      refine ab_aload_n (x := _) (pc2 := 77) dX10_evenPlace_76 rfl rfl ?_
      refine ab_dup (pc2 := 78) dX10_evenPlace_77 rfl (ab_rf1 _) ?_
      refine ab_getI (pc2 := 81) rfl ht0 fa_X10_41 (by decide) dX10_evenPlace_78 rfl ?_
      refine ab_aload_n (x := _) (pc2 := 82) dX10_evenPlace_81 rfl rfl ?_
      refine ab_getI (pc2 := 85) hq3 (T2 q3 hq3) fa_X10_94 (by decide) dX10_evenPlace_82 rfl ?_
      refine ab_isub (pc2 := 86) dX10_evenPlace_85 rfl ?_
      obtain ⟨h13, eh13, hf⟩ := ab_let_x hf
      refine ab_putI (pc2 := 89) rfl ht0 fa_X10_41 (Or.inl rfl) (fun z => by cases z) dX10_evenPlace_86 rfl ?_
      refine ab_topH eh13 ?_
      refine ab_aload_n (x := _) (pc2 := 90) dX10_evenPlace_89 rfl rfl ?_
      refine ab_dup (pc2 := 91) dX10_evenPlace_90 rfl (ab_rf1 _) ?_
      refine ab_getI (pc2 := 94) rfl ht0 fa_X10_47 (by decide) dX10_evenPlace_91 rfl ?_
      refine ab_iconst (pc2 := 95) (v := 1) dX10_evenPlace_94 rfl ab_k_iconst_1 ?_
      refine ab_iload_n (pc2 := 96) dX10_evenPlace_95 rfl rfl ?_
      refine ab_ishl (pc2 := 97) dX10_evenPlace_96 rfl ?_
      refine ab_ior (pc2 := 98) dX10_evenPlace_97 rfl ?_
      obtain ⟨h14, eh14, hf⟩ := ab_let_x hf
      refine ab_putI (pc2 := 101) rfl ht0 fa_X10_47 (Or.inl rfl) (fun z => by cases z) dX10_evenPlace_98 rfl ?_
      refine ab_topH eh14 ?_
      refine ab_aload_n (x := _) (pc2 := 102) dX10_evenPlace_101 rfl rfl ?_
      refine ab_getI (pc2 := 105) hq3 (T2 q3 hq3) fa_X10_97 (by decide) dX10_evenPlace_102 rfl ?_
      refine ab_if_eq (tgt := 120) (pc2 := 108) dX10_evenPlace_105 (by decide) rfl hf (fun c15 hf => ?_) (fun c15 hf => ?_)
      · exact ab_weak (x_X10_evenPlace_b120 ht0 hf) (ab_leS (ab_leS (ab_leS (ab_leN (ab_leN ab_le0)))))
      · refine ab_aload_n (x := _) (pc2 := 109) dX10_evenPlace_108 rfl rfl ?_
        refine ab_dup (pc2 := 110) dX10_evenPlace_109 rfl (ab_rf1 _) ?_
        refine ab_getI (pc2 := 113) rfl ht0 fa_X10_56 (by decide) dX10_evenPlace_110 rfl ?_
        refine ab_iconst (pc2 := 114) (v := 1) dX10_evenPlace_113 rfl ab_k_iconst_1 ?_
        refine ab_iload_n (pc2 := 115) dX10_evenPlace_114 rfl rfl ?_
        refine ab_ishl (pc2 := 116) dX10_evenPlace_115 rfl ?_
        refine ab_ior (pc2 := 117) dX10_evenPlace_116 rfl ?_
        obtain ⟨h16, eh16, hf⟩ := ab_let_x hf
        refine ab_putI (pc2 := 120) rfl ht0 fa_X10_56 (Or.inl rfl) (fun z => by cases z) dX10_evenPlace_117 rfl ?_
        refine ab_topH eh16 ?_
        exact ab_weak (x_X10_evenPlace_b120 ht0 hf) (ab_leS (ab_leS (ab_leS (ab_leN (ab_leN ab_le0)))))
    · cases Option.some.inj hf
      exact ab_retV dX10_evenPlace_25 rfl (Nat.le_refl _) (Nat.le_refl _) ⟨rfl, rfl⟩
set_option maxHeartbeats 4000000 in
set_option maxRecDepth 100000 in
theorem m_X10_evenPlace {d : Nat} {t0 : Nat} {i1 : Int32} {i2 : Int32} {h : ab_HP} {r : ab_HP} (ht0 : (ab_shp t0).1 = 2) (hf : f_X10_evenPlace t0 i1 i2 h = some r) : ab_MET mX10_evenPlace (d + 2) 0 0 [va_rf (some t0), .int i1, .int i2] h (ab_Pv r) := ab_met (by decide +kernel) (by decide +kernel) (Nat.le_of_ble_eq_true rfl) rfl (x_X10_evenPlace ht0 hf)
set_option maxHeartbeats 4000000 in
set_option maxRecDepth 100000 in
theorem x_X10_evenYear_l2 {d : Nat} {t0 : Nat} {r : ab_HP} (ht0 : (ab_shp t0).1 = 2) : ∀ (n : Nat) (i1 : Int32) (i2 : Int32) (h : ab_HP), f_X10_evenYear_l2 t0 n i1 i2 h = some r → ab_T mX10_evenYear (d + 3) 0 0 0 0 2 [some (va_rf (some t0)), some (.int i1), some (.int i2)] [] h (ab_Pv r) := by
  intro n
  induction n with
  | zero =>
    intro i1 i2 h hf
    rw [f_X10_evenYear_l2] at hf
    cases hf
  | succ n ih =>
    intro i1 i2 h hf
    rw [f_X10_evenYear_l2] at hf
    refine ab_iload_n (pc2 := 3) dX10_evenYear_2 rfl rfl ?_
    refine ab_aload_n (x := _) (pc2 := 4) dX10_evenYear_3 rfl rfl ?_
    refine ab_getI (pc2 := 7) rfl ht0 fa_X10_35 (by decide) dX10_evenYear_4 rfl ?_
    refine ab_icmp_ge (tgt := 22) (pc2 := 10) dX10_evenYear_7 (by decide) rfl hf (fun c1 hf => ?_) (fun c1 hf => ?_)
    · cases Option.some.inj hf
      exact ab_retV dX10_evenYear_22 rfl (Nat.le_refl _) (Nat.le_refl _) ⟨rfl, rfl⟩
    · refine ab_aload_n (x := _) (pc2 := 11) dX10_evenYear_10 rfl rfl ?_
      refine ab_iload_n (pc2 := 12) dX10_evenYear_11 rfl rfl ?_
      refine ab_iload_n (pc2 := 13) dX10_evenYear_12 rfl rfl ?_
      obtain ⟨w2, ew2, hf⟩ := ab_bind hf
      refine ab_callV (pc2 := 16) (st := []) rfl ht0 (by decide) (m_X10_evenPlace (d := (d + 0)) ht0 ew2) mf_X10_evenPlace tw_175 tw_174 ts_X10_evenPlace (Or.inl (by decide +kernel)) dX10_evenYear_13 rfl (by omega) (Nat.le_refl _) (Nat.le_refl _) rfl (Nat.le_of_ble_eq_true rfl) (ab_kPv ?_)
      refine ab_iinc (pc2 := 19) (v := _ + 1) (lo2 := [some (va_rf _), some (.int _), some (.int _)]) dX10_evenYear_16 rfl rfl rfl (by decide) rfl ?_
      refine ab_goto (tgt := 2) dX10_evenYear_19 (by decide) ?_
      exact ab_weak (ih _ _ _ hf) (ab_leS (ab_leS (ab_leS ab_le0)))
set_option maxHeartbeats 4000000 in
set_option maxRecDepth 100000 in
theorem x_X10_evenYear {d : Nat} {t0 : Nat} {i1 : Int32} {h : ab_HP} {r : ab_HP} (ht0 : (ab_shp t0).1 = 2) (hf : f_X10_evenYear t0 i1 h = some r) : ab_T mX10_evenYear (d + 3) 0 0 0 0 0 [some (va_rf (some t0)), some (.int i1), none] [] h (ab_Pv r) := by
  unfold f_X10_evenYear at hf
  refine ab_iconst (pc2 := 1) (v := 0) dX10_evenYear_0 rfl ab_k_iconst_0 ?_
  refine ab_istore_n (pc2 := 2) (lo2 := [some (va_rf _), some (.int _), some (.int _)]) dX10_evenYear_1 rfl (by decide) rfl ?_
  exact ab_weak (x_X10_evenYear_l2 ht0 _ _ _ _ hf) (ab_leS (ab_leS (ab_leS ab_le0)))
set_option maxHeartbeats 4000000 in
set_option maxRecDepth 100000 in
theorem m_X10_evenYear {d : Nat} {t0 : Nat} {i1 : Int32} {h : ab_HP} {r : ab_HP} (ht0 : (ab_shp t0).1 = 2) (hf : f_X10_evenYear t0 i1 h = some r) : ab_MET mX10_evenYear (d + 3) 0 0 [va_rf (some t0), .int i1] h (ab_Pv r) := ab_met (by decide +kernel) (by decide +kernel) (Nat.le_of_ble_eq_true rfl) rfl (x_X10_evenYear ht0 hf)
set_option maxHeartbeats 4000000 in
set_option maxRecDepth 100000 in
theorem x_X10_stays_l32 {d : Nat} {t0 : Nat} {r : Int32} (ht0 : (ab_shp t0).1 = 2) : ∀ (n : Nat) (i2 : Int32) (i3 : Int32) (h : ab_HP), f_X10_stays_l32 t0 n i2 i3 h = some r → ab_T mX10_stays (d + 1) 0 0 0 0 32 [some (va_rf (some t0)), none, some (.int i2), some (.int i3), none] [] h (ab_Pb r h) := by
  intro n
  induction n with
  | zero =>
    intro i2 i3 h hf
    rw [f_X10_stays_l32] at hf
    cases hf
  | succ n ih =>
    intro i2 i3 h hf
    rw [f_X10_stays_l32] at hf
    refine ab_iload_n (pc2 := 33) dX10_stays_32 rfl rfl ?_
    refine ab_aload_n (x := _) (pc2 := 34) dX10_stays_33 rfl rfl ?_
    refine ab_getI (pc2 := 37) rfl ht0 fa_X10_35 (by decide) dX10_stays_34 rfl ?_
    refine ab_icmp_ge (tgt := 81) (pc2 := 40) dX10_stays_37 (by decide) rfl hf (fun c6 hf => ?_) (fun c6 hf => ?_)
    · refine ab_iconst (pc2 := 82) (v := 0) dX10_stays_81 rfl ab_k_iconst_0 ?_
      cases Option.some.inj hf
      exact ab_retI dX10_stays_82 (Or.inr ⟨rfl, (Or.inl rfl)⟩) (Nat.le_refl _) (Nat.le_refl _) ⟨rfl, rfl, (Or.inl rfl)⟩
    · refine ab_aload_n (x := _) (pc2 := 41) dX10_stays_40 rfl rfl ?_
      refine ab_iload_n (pc2 := 42) dX10_stays_41 rfl rfl ?_
      obtain ⟨w7, ew7, hf⟩ := ab_bind hf
      refine ab_callV (pc2 := 45) (st := []) rfl ht0 (by decide) (m_X10_deedAt (d := (d + 0)) ht0 ew7) mf_X10_deedAt tw_164 tw_163 ts_X10_deedAt (Or.inl (by decide +kernel)) dX10_stays_42 rfl (by omega) (Nat.le_refl _) (Nat.le_refl _) rfl (Nat.le_of_ble_eq_true rfl) (ab_kPr fun T8 => ?_)
      refine ab_astore (pc2 := 47) (lo2 := [some (va_rf _), none, some (.int _), some (.int _), some (va_rf _)]) dX10_stays_45 rfl (by decide) rfl ?_
      refine ab_aload (x := _) (pc2 := 49) dX10_stays_47 rfl rfl ?_
      refine ab_nul (tgt := 75) (pc2 := 52) dX10_stays_49 (by decide) rfl hf (fun hq9 hf => ?_) (fun q9 hq9 hf => ?_)
      · refine ab_iinc (pc2 := 78) (v := _ + 1) (lo2 := [some (va_rf _), none, some (.int _), some (.int _), some (va_rf _)]) dX10_stays_75 rfl rfl rfl (by decide) rfl ?_
        refine ab_goto (tgt := 32) dX10_stays_78 (by decide) ?_
        exact ab_weak (ih _ _ _ hf) (ab_leS (ab_leN (ab_leS (ab_leS (ab_leN ab_le0)))))
      · refine ab_aload_n (x := _) (pc2 := 53) dX10_stays_52 rfl rfl ?_
        refine ab_getI (pc2 := 56) rfl ht0 fa_X10_56 (by decide) dX10_stays_53 rfl ?_
        refine ab_iload_n (pc2 := 57) dX10_stays_56 rfl rfl ?_
        obtain ⟨w10, ew10, hf⟩ := ab_bind hf
        refine ab_callS (pc2 := 60) (st := []) (m_X10_has (d := (d + 0)) ew10) mf_X10_has tw_170 tw_171 dX10_stays_57 rfl (by omega) (Nat.le_refl _) (Nat.le_refl _) rfl (Nat.le_of_ble_eq_true rfl) (ab_kPb fun z11 => ?_)
        refine ab_if_eq (tgt := 75) (pc2 := 63) dX10_stays_60 (by decide) rfl hf (fun c12 hf => ?_) (fun c12 hf => ?_)
        · refine ab_iinc (pc2 := 78) (v := _ + 1) (lo2 := [some (va_rf _), none, some (.int _), some (.int _), some (va_rf _)]) dX10_stays_75 rfl rfl rfl (by decide) rfl ?_
          refine ab_goto (tgt := 32) dX10_stays_78 (by decide) ?_
          exact ab_weak (ih _ _ _ hf) (ab_leS (ab_leN (ab_leS (ab_leS (ab_leN ab_le0)))))
        · refine ab_aload (x := _) (pc2 := 65) dX10_stays_63 rfl rfl ?_
          refine ab_getI (pc2 := 68) hq9 (T8 q9 hq9) fa_X10_124 (by decide) dX10_stays_65 rfl ?_
          refine ab_iload_n (pc2 := 69) dX10_stays_68 rfl rfl ?_
          refine ab_iand (pc2 := 70) dX10_stays_69 rfl ?_
          refine ab_if_eq (tgt := 75) (pc2 := 73) dX10_stays_70 (by decide) rfl hf (fun c13 hf => ?_) (fun c13 hf => ?_)
          · refine ab_iinc (pc2 := 78) (v := _ + 1) (lo2 := [some (va_rf _), none, some (.int _), some (.int _), some (va_rf _)]) dX10_stays_75 rfl rfl rfl (by decide) rfl ?_
            refine ab_goto (tgt := 32) dX10_stays_78 (by decide) ?_
            exact ab_weak (ih _ _ _ hf) (ab_leS (ab_leN (ab_leS (ab_leS (ab_leN ab_le0)))))
          · refine ab_iconst (pc2 := 74) (v := 1) dX10_stays_73 rfl ab_k_iconst_1 ?_
            cases Option.some.inj hf
            exact ab_retI dX10_stays_74 (Or.inr ⟨rfl, (Or.inr rfl)⟩) (Nat.le_refl _) (Nat.le_refl _) ⟨rfl, rfl, (Or.inr rfl)⟩
set_option maxHeartbeats 4000000 in
set_option maxRecDepth 100000 in
theorem x_X10_stays {d : Nat} {t0 : Nat} {i1 : Int32} {h : ab_HP} {r : Int32} (ht0 : (ab_shp t0).1 = 2) (hf : f_X10_stays t0 i1 h = some r) : ab_T mX10_stays (d + 1) 0 0 0 0 0 [some (va_rf (some t0)), some (.int i1), none, none, none] [] h (ab_Pb r h) := by
  unfold f_X10_stays at hf
  refine ab_aload_n (x := _) (pc2 := 1) dX10_stays_0 rfl rfl ?_
  refine ab_getI (pc2 := 4) rfl ht0 fa_X10_34 (by decide) dX10_stays_1 rfl ?_
  refine ab_iconst (pc2 := 5) (v := 1) dX10_stays_4 rfl ab_k_iconst_1 ?_
  refine ab_icmp_eq (tgt := 10) (pc2 := 8) dX10_stays_5 (by decide) rfl hf (fun c1 hf => ?_) (fun c1 hf => ?_)
  · refine ab_aload_n (x := _) (pc2 := 11) dX10_stays_10 rfl rfl ?_
    refine ab_getR (pc2 := 14) rfl ht0 fa_X10_17 dX10_stays_11 rfl (fun T2 => ?_)
    refine ab_iload_n (pc2 := 15) dX10_stays_14 rfl rfl ?_
    obtain ⟨w3, ew3, hf⟩ := ab_bind hf
    refine ab_callSN (pc2 := 18) (st := []) (m_X11_at (d := (d + 0)) T2 ew3) mf_X11_at tn_X10_120 tw_23 dX10_stays_15 rfl (by omega) (Nat.le_refl _) (Nat.le_refl _) rfl (Nat.le_of_ble_eq_true rfl) (ab_kPi ?_)
    refine ab_aload_n (x := _) (pc2 := 19) dX10_stays_18 rfl rfl ?_
    refine ab_getR (pc2 := 22) rfl ht0 fa_X10_21 dX10_stays_19 rfl (fun T4 => ?_)
    refine ab_iload_n (pc2 := 23) dX10_stays_22 rfl rfl ?_
    obtain ⟨w5, ew5, hf⟩ := ab_bind hf
    refine ab_callSN (pc2 := 26) (st := [_]) (m_X11_at (d := (d + 0)) T4 ew5) mf_X11_at tn_X10_120 tw_23 dX10_stays_23 rfl (by omega) (Nat.le_refl _) (Nat.le_refl _) rfl (Nat.le_of_ble_eq_true rfl) (ab_kPi ?_)
    refine ab_ior (pc2 := 27) dX10_stays_26 rfl ?_
    refine ab_istore_n (pc2 := 28) (lo2 := [some (va_rf _), some (.int _), some (.int _), none, none]) dX10_stays_27 rfl (by decide) rfl ?_
    refine ab_iload_n (pc2 := 29) dX10_stays_28 rfl rfl ?_
    refine ab_iconst (pc2 := 30) (v := 1) dX10_stays_29 rfl ab_k_iconst_1 ?_
    refine ab_iadd (pc2 := 31) dX10_stays_30 rfl ?_
    refine ab_istore_n (pc2 := 32) (lo2 := [some (va_rf _), some (.int _), some (.int _), some (.int _), none]) dX10_stays_31 rfl (by decide) rfl ?_
    exact ab_weak (x_X10_stays_l32 ht0 _ _ _ _ hf) (ab_leS (ab_leN (ab_leS (ab_leS (ab_leN ab_le0)))))
  · refine ab_iconst (pc2 := 9) (v := 0) dX10_stays_8 rfl ab_k_iconst_0 ?_
    cases Option.some.inj hf
    exact ab_retI dX10_stays_9 (Or.inr ⟨rfl, (Or.inl rfl)⟩) (Nat.le_refl _) (Nat.le_refl _) ⟨rfl, rfl, (Or.inl rfl)⟩
set_option maxHeartbeats 4000000 in
set_option maxRecDepth 100000 in
theorem m_X10_stays {d : Nat} {t0 : Nat} {i1 : Int32} {h : ab_HP} {r : Int32} (ht0 : (ab_shp t0).1 = 2) (hf : f_X10_stays t0 i1 h = some r) : ab_MET mX10_stays (d + 1) 0 0 [va_rf (some t0), .int i1] h (ab_Pb r h) := ab_met (by decide +kernel) (by decide +kernel) (Nat.le_of_ble_eq_true rfl) rfl (x_X10_stays ht0 hf)
set_option maxHeartbeats 4000000 in
set_option maxRecDepth 100000 in
theorem x_X10_undo {d : Nat} {t0 : Nat} {i1 : Int32} {h : ab_HP} {r : ab_HP} (ht0 : (ab_shp t0).1 = 2) (hf : f_X10_undo t0 i1 h = some r) : ab_T mX10_undo (d + 1) 0 0 0 0 0 [some (va_rf (some t0)), some (.int i1), none] [] h (ab_Pv r) := by
  unfold f_X10_undo at hf
  refine ab_aload_n (x := _) (pc2 := 1) dX10_undo_0 rfl rfl ?_
  refine ab_iload_n (pc2 := 2) dX10_undo_1 rfl rfl ?_
  obtain ⟨w1, ew1, hf⟩ := ab_bind hf
  refine ab_callV (pc2 := 5) (st := []) rfl ht0 (by decide) (m_X10_deedAt (d := (d + 0)) ht0 ew1) mf_X10_deedAt tw_164 tw_163 ts_X10_deedAt (Or.inl (by decide +kernel)) dX10_undo_2 rfl (by omega) (Nat.le_refl _) (Nat.le_refl _) rfl (Nat.le_of_ble_eq_true rfl) (ab_kPr fun T2 => ?_)
  refine ab_astore_n (pc2 := 6) (lo2 := [some (va_rf _), some (.int _), some (va_rf _)]) dX10_undo_5 rfl (by decide) rfl ?_
  refine ab_aload_n (x := _) (pc2 := 7) dX10_undo_6 rfl rfl ?_
  refine ab_nul (tgt := 69) (pc2 := 10) dX10_undo_7 (by decide) rfl hf (fun hq3 hf => ?_) (fun q3 hq3 hf => ?_)
  · cases Option.some.inj hf
    exact ab_retV dX10_undo_69 rfl (Nat.le_refl _) (Nat.le_refl _) ⟨rfl, rfl⟩
  · refine ab_aload_n (x := _) (pc2 := 11) dX10_undo_10 rfl rfl ?_
    refine ab_aload_n (x := _) (pc2 := 12) dX10_undo_11 rfl rfl ?_
    refine ab_getI (pc2 := 15) rfl ht0 fa_X10_38 (by decide) dX10_undo_12 rfl ?_
    refine ab_aload_n (x := _) (pc2 := 16) dX10_undo_15 rfl rfl ?_
    refine ab_getR (pc2 := 19) rfl ht0 fa_X10_17 dX10_undo_16 rfl (fun T4 => ?_)
    refine ab_iload_n (pc2 := 20) dX10_undo_19 rfl rfl ?_
    obtain ⟨w5, ew5, hf⟩ := ab_bind hf
    refine ab_callSN (pc2 := 23) (st := [_, _]) (m_X11_at (d := (d + 0)) T4 ew5) mf_X11_at tn_X10_120 tw_23 dX10_undo_20 rfl (by omega) (Nat.le_refl _) (Nat.le_refl _) rfl (Nat.le_of_ble_eq_true rfl) (ab_kPi ?_)
    refine ab_iconst (pc2 := 24) (v := (-1)) dX10_undo_23 rfl ab_k_iconst_m1 ?_
    refine ab_ixor (pc2 := 25) dX10_undo_24 rfl ?_
    refine ab_iand (pc2 := 26) dX10_undo_25 rfl ?_
    refine ab_aload_n (x := _) (pc2 := 27) dX10_undo_26 rfl rfl ?_
    refine ab_getR (pc2 := 30) rfl ht0 fa_X10_21 dX10_undo_27 rfl (fun T6 => ?_)
    refine ab_iload_n (pc2 := 31) dX10_undo_30 rfl rfl ?_
    obtain ⟨w7, ew7, hf⟩ := ab_bind hf
    refine ab_callSN (pc2 := 34) (st := [_, _]) (m_X11_at (d := (d + 0)) T6 ew7) mf_X11_at tn_X10_120 tw_23 dX10_undo_31 rfl (by omega) (Nat.le_refl _) (Nat.le_refl _) rfl (Nat.le_of_ble_eq_true rfl) (ab_kPi ?_)
    refine ab_ior (pc2 := 35) dX10_undo_34 rfl ?_
    obtain ⟨h8, eh8, hf⟩ := ab_let_x hf
    refine ab_putI (pc2 := 38) rfl ht0 fa_X10_38 (Or.inl rfl) (fun z => by cases z) dX10_undo_35 rfl ?_
    refine ab_topH eh8 ?_
    refine ab_aload_n (x := _) (pc2 := 39) dX10_undo_38 rfl rfl ?_
    refine ab_sipush (pc2 := 42) (v := 9999) dX10_undo_39 rfl ab_k_sipush_9999 ?_
    refine ab_aload_n (x := _) (pc2 := 43) dX10_undo_42 rfl rfl ?_
    refine ab_getI (pc2 := 46) rfl ht0 fa_X10_41 (by decide) dX10_undo_43 rfl ?_
    refine ab_aload_n (x := _) (pc2 := 47) dX10_undo_46 rfl rfl ?_
    refine ab_getI (pc2 := 50) hq3 (T2 q3 hq3) fa_X10_130 (by decide) dX10_undo_47 rfl ?_
    refine ab_iadd (pc2 := 51) dX10_undo_50 rfl ?_
    refine ab_mmin (pc2 := 54) tw_176 tw_min_s tw_math tw_min_c (by omega) (Nat.le_of_ble_eq_true rfl) (Nat.le_refl _) (Nat.le_refl _) dX10_undo_51 rfl ?_
    obtain ⟨h9, eh9, hf⟩ := ab_let_x hf
    refine ab_putI (pc2 := 57) rfl ht0 fa_X10_41 (Or.inl rfl) (fun z => by cases z) dX10_undo_54 rfl ?_
    refine ab_topH eh9 ?_
    refine ab_aload_n (x := _) (pc2 := 58) dX10_undo_57 rfl rfl ?_
    refine ab_dup (pc2 := 59) dX10_undo_58 rfl (ab_rf1 _) ?_
    refine ab_getI (pc2 := 62) rfl ht0 fa_X10_50 (by decide) dX10_undo_59 rfl ?_
    refine ab_iconst (pc2 := 63) (v := 1) dX10_undo_62 rfl ab_k_iconst_1 ?_
    refine ab_iload_n (pc2 := 64) dX10_undo_63 rfl rfl ?_
    refine ab_ishl (pc2 := 65) dX10_undo_64 rfl ?_
    refine ab_ior (pc2 := 66) dX10_undo_65 rfl ?_
    obtain ⟨h10, eh10, hf⟩ := ab_let_x hf
    refine ab_putI (pc2 := 69) rfl ht0 fa_X10_50 (Or.inl rfl) (fun z => by cases z) dX10_undo_66 rfl ?_
    refine ab_topH eh10 ?_
    cases Option.some.inj hf
    exact ab_retV dX10_undo_69 rfl (Nat.le_refl _) (Nat.le_refl _) ⟨rfl, rfl⟩
set_option maxHeartbeats 4000000 in
set_option maxRecDepth 100000 in
theorem m_X10_undo {d : Nat} {t0 : Nat} {i1 : Int32} {h : ab_HP} {r : ab_HP} (ht0 : (ab_shp t0).1 = 2) (hf : f_X10_undo t0 i1 h = some r) : ab_MET mX10_undo (d + 1) 0 0 [va_rf (some t0), .int i1] h (ab_Pv r) := ab_met (by decide +kernel) (by decide +kernel) (Nat.le_of_ble_eq_true rfl) rfl (x_X10_undo ht0 hf)
