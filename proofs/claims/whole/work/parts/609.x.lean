set_option maxHeartbeats 4000000 in
set_option maxRecDepth 100000 in
theorem x_X11_month_l4 {d : Nat} {t0 : Nat} {r : Int32} (ht0 : (ab_shp t0).1 = 0) : ∀ (n : Nat) (i1 : Int32) (i2 : Int32) (h : ab_HP), f_X11_month_l4 t0 n i1 i2 h = some r → ab_T mX11_month (d + 1) 0 0 0 0 4 [some (va_rf (some t0)), some (.int i1), some (.int i2)] [] h (ab_Pi r h) := by
  intro n
  induction n with
  | zero =>
    intro i1 i2 h hf
    rw [f_X11_month_l4] at hf
    cases hf
  | succ n ih =>
    intro i1 i2 h hf
    rw [f_X11_month_l4] at hf
    refine ab_iload_n (pc2 := 5) dX11_month_4 rfl rfl ?_
    refine ab_bipush (pc2 := 7) (v := 8) dX11_month_5 rfl ab_k_bipush_8 ?_
    refine ab_icmp_ge (tgt := 37) (pc2 := 10) dX11_month_7 (by decide) rfl hf (fun c1 hf => ?_) (fun c1 hf => ?_)
    · refine ab_iload_n (pc2 := 38) dX11_month_37 rfl rfl ?_
      cases Option.some.inj hf
      exact ab_retI dX11_month_38 (Or.inl rfl) (Nat.le_refl _) (Nat.le_refl _) ⟨rfl, rfl⟩
    · refine ab_aload_n (x := _) (pc2 := 11) dX11_month_10 rfl rfl ?_
      refine ab_getR (pc2 := 14) rfl ht0 fa_X11_10 dX11_month_11 rfl (fun T2 => ?_)
      refine ab_iload_n (pc2 := 15) dX11_month_14 rfl rfl ?_
      obtain ⟨q3, hq3, hf⟩ := ab_bind hf
      obtain ⟨w4, ew4, hf⟩ := ab_bind hf
      refine ab_callV (pc2 := 18) (st := []) hq3 (T2 q3 hq3) (by decide) (m_X9_nailCost (d := (d + 0)) (T2 q3 hq3) ew4) mf_X9_nailCost tw_301 tw_161 ts_X9_nailCost (Or.inl (by decide +kernel)) dX11_month_15 rfl (by omega) (Nat.le_refl _) (Nat.le_refl _) rfl (Nat.le_of_ble_eq_true rfl) (ab_kPi ?_)
      refine ab_aload_n (x := _) (pc2 := 19) dX11_month_18 rfl rfl ?_
      refine ab_getR (pc2 := 22) rfl ht0 fa_X11_10 dX11_month_19 rfl (fun T5 => ?_)
      refine ab_iload_n (pc2 := 23) dX11_month_22 rfl rfl ?_
      obtain ⟨q6, hq6, hf⟩ := ab_bind hf
      obtain ⟨w7, ew7, hf⟩ := ab_bind hf
      refine ab_callV (pc2 := 26) (st := [_]) hq6 (T5 q6 hq6) (by decide) (m_X9_nailCost (d := (d + 0)) (T5 q6 hq6) ew7) mf_X9_nailCost tw_301 tw_161 ts_X9_nailCost (Or.inl (by decide +kernel)) dX11_month_23 rfl (by omega) (Nat.le_refl _) (Nat.le_refl _) rfl (Nat.le_of_ble_eq_true rfl) (ab_kPi ?_)
      refine ab_icmp_ge (tgt := 31) (pc2 := 29) dX11_month_26 (by decide) rfl hf (fun c8 hf => ?_) (fun c8 hf => ?_)
      · refine ab_iinc (pc2 := 34) (v := _ + 1) (lo2 := [some (va_rf _), some (.int _), some (.int _)]) dX11_month_31 rfl rfl rfl (by decide) rfl ?_
        refine ab_goto (tgt := 4) dX11_month_34 (by decide) ?_
        exact ab_weak (ih _ _ _ hf) (ab_leS (ab_leS (ab_leS ab_le0)))
      · refine ab_iload_n (pc2 := 30) dX11_month_29 rfl rfl ?_
        refine ab_istore_n (pc2 := 31) (lo2 := [some (va_rf _), some (.int _), some (.int _)]) dX11_month_30 rfl (by decide) rfl ?_
        refine ab_iinc (pc2 := 34) (v := _ + 1) (lo2 := [some (va_rf _), some (.int _), some (.int _)]) dX11_month_31 rfl rfl rfl (by decide) rfl ?_
        refine ab_goto (tgt := 4) dX11_month_34 (by decide) ?_
        exact ab_weak (ih _ _ _ hf) (ab_leS (ab_leS (ab_leS ab_le0)))
set_option maxHeartbeats 4000000 in
set_option maxRecDepth 100000 in
theorem x_X11_month {d : Nat} {t0 : Nat} {h : ab_HP} {r : Int32} (ht0 : (ab_shp t0).1 = 0) (hf : f_X11_month t0 h = some r) : ab_T mX11_month (d + 1) 0 0 0 0 0 [some (va_rf (some t0)), none, none] [] h (ab_Pi r h) := by
  unfold f_X11_month at hf
  refine ab_iconst (pc2 := 1) (v := 0) dX11_month_0 rfl ab_k_iconst_0 ?_
  refine ab_istore_n (pc2 := 2) (lo2 := [some (va_rf _), some (.int _), none]) dX11_month_1 rfl (by decide) rfl ?_
  refine ab_iconst (pc2 := 3) (v := 1) dX11_month_2 rfl ab_k_iconst_1 ?_
  refine ab_istore_n (pc2 := 4) (lo2 := [some (va_rf _), some (.int _), some (.int _)]) dX11_month_3 rfl (by decide) rfl ?_
  exact ab_weak (x_X11_month_l4 ht0 _ _ _ _ hf) (ab_leS (ab_leS (ab_leS ab_le0)))
set_option maxHeartbeats 4000000 in
set_option maxRecDepth 100000 in
theorem m_X11_month {d : Nat} {t0 : Nat} {h : ab_HP} {r : Int32} (ht0 : (ab_shp t0).1 = 0) (hf : f_X11_month t0 h = some r) : ab_MET mX11_month (d + 1) 0 0 [va_rf (some t0)] h (ab_Pi r h) := ab_met (by decide +kernel) (by decide +kernel) (Nat.le_of_ble_eq_true rfl) rfl (x_X11_month ht0 hf)
set_option maxHeartbeats 4000000 in
set_option maxRecDepth 100000 in
theorem x_X11_nail {d : Nat} {t0 : Nat} {i1 : Int32} {h : ab_HP} {r : Int32} (ht0 : (ab_shp t0).1 = 0) (hf : f_X11_nail t0 i1 h = some r) : ab_T mX11_nail (d + 1) 0 0 0 0 0 [some (va_rf (some t0)), some (.int i1)] [] h (ab_Pi r h) := by
  unfold f_X11_nail at hf
  refine ab_iload_n (pc2 := 1) dX11_nail_0 rfl rfl ?_
  refine ab_if_lt (tgt := 10) (pc2 := 4) dX11_nail_1 (by decide) rfl hf (fun c1 hf => ?_) (fun c1 hf => ?_)
  · refine ab_iconst (pc2 := 11) (v := (-1)) dX11_nail_10 rfl ab_k_iconst_m1 ?_
    refine ab_goto (tgt := 22) dX11_nail_11 (by decide) ?_
    cases Option.some.inj hf
    exact ab_retI dX11_nail_22 (Or.inl rfl) (Nat.le_refl _) (Nat.le_refl _) ⟨rfl, rfl⟩
  · refine ab_iload_n (pc2 := 5) dX11_nail_4 rfl rfl ?_
    refine ab_bipush (pc2 := 7) (v := 8) dX11_nail_5 rfl ab_k_bipush_8 ?_
    refine ab_icmp_lt (tgt := 14) (pc2 := 10) dX11_nail_7 (by decide) rfl hf (fun c2 hf => ?_) (fun c2 hf => ?_)
    · refine ab_aload_n (x := _) (pc2 := 15) dX11_nail_14 rfl rfl ?_
      refine ab_getR (pc2 := 18) rfl ht0 fa_X11_10 dX11_nail_15 rfl (fun T3 => ?_)
      refine ab_iload_n (pc2 := 19) dX11_nail_18 rfl rfl ?_
      obtain ⟨q4, hq4, hf⟩ := ab_bind hf
      obtain ⟨w5, ew5, hf⟩ := ab_bind hf
      refine ab_callV (pc2 := 22) (st := []) hq4 (T3 q4 hq4) (by decide) (m_X9_nailCost (d := (d + 0)) (T3 q4 hq4) ew5) mf_X9_nailCost tw_301 tw_161 ts_X9_nailCost (Or.inl (by decide +kernel)) dX11_nail_19 rfl (by omega) (Nat.le_refl _) (Nat.le_refl _) rfl (Nat.le_of_ble_eq_true rfl) (ab_kPi ?_)
      cases Option.some.inj hf
      exact ab_retI dX11_nail_22 (Or.inl rfl) (Nat.le_refl _) (Nat.le_refl _) ⟨rfl, rfl⟩
    · refine ab_iconst (pc2 := 11) (v := (-1)) dX11_nail_10 rfl ab_k_iconst_m1 ?_
      refine ab_goto (tgt := 22) dX11_nail_11 (by decide) ?_
      cases Option.some.inj hf
      exact ab_retI dX11_nail_22 (Or.inl rfl) (Nat.le_refl _) (Nat.le_refl _) ⟨rfl, rfl⟩
set_option maxHeartbeats 4000000 in
set_option maxRecDepth 100000 in
theorem m_X11_nail {d : Nat} {t0 : Nat} {i1 : Int32} {h : ab_HP} {r : Int32} (ht0 : (ab_shp t0).1 = 0) (hf : f_X11_nail t0 i1 h = some r) : ab_MET mX11_nail (d + 1) 0 0 [va_rf (some t0), .int i1] h (ab_Pi r h) := ab_met (by decide +kernel) (by decide +kernel) (Nat.le_of_ble_eq_true rfl) rfl (x_X11_nail ht0 hf)
set_option maxHeartbeats 4000000 in
set_option maxRecDepth 100000 in
theorem x_X11_byLaw {d : Nat} {t0 : Nat} {i1 : Int32} {i2 : Int32} {i3 : Int32} {h : ab_HP} {r : (Int32 × ab_HP)} (ht0 : (ab_shp t0).1 = 0) (hf : f_X11_byLaw t0 i1 i2 i3 h = some r) : ab_T mX11_byLaw (d + 5) 0 0 0 0 0 [some (va_rf (some t0)), some (.int i1), some (.int i2), some (.int i3), none] [] h (ab_Pi r.1 r.2) := by
  unfold f_X11_byLaw at hf
  refine ab_iload_n (pc2 := 1) dX11_byLaw_0 rfl rfl ?_
  refine ab_if_lt (tgt := 16) (pc2 := 4) dX11_byLaw_1 (by decide) rfl hf (fun c1 hf => ?_) (fun c1 hf => ?_)
  · refine ab_iconst (pc2 := 17) (v := (-1)) dX11_byLaw_16 rfl ab_k_iconst_m1 ?_
    cases Option.some.inj hf
    exact ab_retI dX11_byLaw_17 (Or.inl rfl) (Nat.le_refl _) (Nat.le_refl _) ⟨rfl, rfl⟩
  · refine ab_iload_n (pc2 := 5) dX11_byLaw_4 rfl rfl ?_
    refine ab_iconst (pc2 := 6) (v := 3) dX11_byLaw_5 rfl ab_k_iconst_3 ?_
    refine ab_icmp_ge (tgt := 16) (pc2 := 9) dX11_byLaw_6 (by decide) rfl hf (fun c2 hf => ?_) (fun c2 hf => ?_)
    · refine ab_iconst (pc2 := 17) (v := (-1)) dX11_byLaw_16 rfl ab_k_iconst_m1 ?_
      cases Option.some.inj hf
      exact ab_retI dX11_byLaw_17 (Or.inl rfl) (Nat.le_refl _) (Nat.le_refl _) ⟨rfl, rfl⟩
    · refine ab_iload_n (pc2 := 10) dX11_byLaw_9 rfl rfl ?_
      obtain ⟨w3, ew3, hf⟩ := ab_bind hf
      refine ab_callS (pc2 := 13) (st := []) (m_X11_areNails (d := (d + 4)) ew3) mf_X11_areNails tw_190 tw_191 dX11_byLaw_10 rfl (by omega) (Nat.le_refl _) (Nat.le_refl _) rfl (Nat.le_of_ble_eq_true rfl) (ab_kPb fun z4 => ?_)
      refine ab_if_ne (tgt := 18) (pc2 := 16) dX11_byLaw_13 (by decide) rfl hf (fun c5 hf => ?_) (fun c5 hf => ?_)
      · refine ab_aload_n (x := _) (pc2 := 19) dX11_byLaw_18 rfl rfl ?_
        refine ab_iload_n (pc2 := 20) dX11_byLaw_19 rfl rfl ?_
        obtain ⟨w6, ew6, hf⟩ := ab_bind hf
        refine ab_callV (pc2 := 23) (st := []) rfl ht0 (by decide) (m_X11_takeList (d := (d + 1)) ht0 ew6) mf_X11_takeList tw_193 tw_192 ts_X11_takeList (Or.inl (by decide +kernel)) dX11_byLaw_20 rfl (by omega) (Nat.le_refl _) (Nat.le_refl _) rfl (Nat.le_of_ble_eq_true rfl) (ab_kPi ?_)
        refine ab_istore (pc2 := 25) (lo2 := [some (va_rf _), some (.int _), some (.int _), some (.int _), some (.int _)]) dX11_byLaw_23 rfl (by decide) rfl ?_
        refine ab_iload (pc2 := 27) dX11_byLaw_25 rfl rfl ?_
        refine ab_if_eq (tgt := 33) (pc2 := 30) dX11_byLaw_27 (by decide) rfl hf (fun c7 hf => ?_) (fun c7 hf => ?_)
        · refine ab_aload_n (x := _) (pc2 := 34) dX11_byLaw_33 rfl rfl ?_
          refine ab_getR (pc2 := 37) rfl ht0 fa_X11_25 dX11_byLaw_34 rfl (fun T8 => ?_)
          refine ab_iload_n (pc2 := 38) dX11_byLaw_37 rfl rfl ?_
          obtain ⟨q9, hq9, hf⟩ := ab_bind hf
          obtain ⟨h10, eh10, hf⟩ := ab_let_x hf
          refine ab_putI (pc2 := 41) hq9 (T8 q9 hq9) fa_X11_229 (Or.inl rfl) (fun z => by cases z) dX11_byLaw_38 rfl ?_
          refine ab_topH eh10 ?_
          refine ab_aload_n (x := _) (pc2 := 42) dX11_byLaw_41 rfl rfl ?_
          refine ab_getR (pc2 := 45) rfl ht0 fa_X11_25 dX11_byLaw_42 rfl (fun T11 => ?_)
          refine ab_iload_n (pc2 := 46) dX11_byLaw_45 rfl rfl ?_
          obtain ⟨q12, hq12, hf⟩ := ab_bind hf
          obtain ⟨w13, ew13, hf⟩ := ab_bind hf
          refine ab_callV (pc2 := 49) (st := []) hq12 (T11 q12 hq12) (by decide) (m_X10_play (d := (d + 0)) (T11 q12 hq12) ew13) mf_X10_play tw_195 tw_194 ts_X10_play (Or.inl (by decide +kernel)) dX11_byLaw_46 rfl (by omega) (Nat.le_refl _) (Nat.le_refl _) rfl (Nat.le_of_ble_eq_true rfl) (ab_kPv ?_)
          refine ab_aload_n (x := _) (pc2 := 50) dX11_byLaw_49 rfl rfl ?_
          refine ab_getR (pc2 := 53) rfl ht0 fa_X11_25 dX11_byLaw_50 rfl (fun T14 => ?_)
          obtain ⟨q15, hq15, hf⟩ := ab_bind hf
          refine ab_getI (pc2 := 56) hq15 (T14 q15 hq15) fa_X11_155 (by decide) dX11_byLaw_53 rfl ?_
          obtain ⟨w16, ew16, hf⟩ := ab_bind hf
          refine ab_callS (pc2 := 59) (st := []) (m_J6_bitCount_0f7a4 (d := (d + 4)) ew16) mf_J6_bitCount_0f7a4 tw_202 tw_203 dX11_byLaw_56 rfl (by omega) (Nat.le_refl _) (Nat.le_refl _) rfl (Nat.le_of_ble_eq_true rfl) (ab_kPi ?_)
          cases Option.some.inj hf
          exact ab_retI dX11_byLaw_59 (Or.inl rfl) (Nat.le_refl _) (Nat.le_refl _) ⟨rfl, rfl⟩
        · refine ab_iload (pc2 := 32) dX11_byLaw_30 rfl rfl ?_
          cases Option.some.inj hf
          exact ab_retI dX11_byLaw_32 (Or.inl rfl) (Nat.le_refl _) (Nat.le_refl _) ⟨rfl, rfl⟩
      · refine ab_iconst (pc2 := 17) (v := (-1)) dX11_byLaw_16 rfl ab_k_iconst_m1 ?_
        cases Option.some.inj hf
        exact ab_retI dX11_byLaw_17 (Or.inl rfl) (Nat.le_refl _) (Nat.le_refl _) ⟨rfl, rfl⟩
set_option maxHeartbeats 4000000 in
set_option maxRecDepth 100000 in
theorem m_X11_byLaw {d : Nat} {t0 : Nat} {i1 : Int32} {i2 : Int32} {i3 : Int32} {h : ab_HP} {r : (Int32 × ab_HP)} (ht0 : (ab_shp t0).1 = 0) (hf : f_X11_byLaw t0 i1 i2 i3 h = some r) : ab_MET mX11_byLaw (d + 5) 0 0 [va_rf (some t0), .int i1, .int i2, .int i3] h (ab_Pi r.1 r.2) := ab_met (by decide +kernel) (by decide +kernel) (Nat.le_of_ble_eq_true rfl) rfl (x_X11_byLaw ht0 hf)
set_option maxHeartbeats 4000000 in
set_option maxRecDepth 100000 in
theorem x_X11_nextSeed {d : Nat} {i0 : Int32} {h : ab_HP} {r : Int32}  (hf : f_X11_nextSeed i0 h = some r) : ab_T mX11_nextSeed (d + 0) 0 0 0 0 0 [some (.int i0)] [] h (ab_Pi r h) := by
  unfold f_X11_nextSeed at hf
  refine ab_iload_n (pc2 := 1) dX11_nextSeed_0 rfl rfl ?_
  refine ab_ldcw (pc2 := 4) (v := 1103515245) dX11_nextSeed_1 rfl tw_302 ?_
  refine ab_imul (pc2 := 5) dX11_nextSeed_4 rfl ?_
  refine ab_sipush (pc2 := 8) (v := 12345) dX11_nextSeed_5 rfl ab_k_sipush_12345 ?_
  refine ab_iadd (pc2 := 9) dX11_nextSeed_8 rfl ?_
  cases Option.some.inj hf
  exact ab_retI dX11_nextSeed_9 (Or.inl rfl) (Nat.le_refl _) (Nat.le_refl _) ⟨rfl, rfl⟩
set_option maxHeartbeats 4000000 in
set_option maxRecDepth 100000 in
theorem m_X11_nextSeed {d : Nat} {i0 : Int32} {h : ab_HP} {r : Int32}  (hf : f_X11_nextSeed i0 h = some r) : ab_MET mX11_nextSeed (d + 0) 0 0 [.int i0] h (ab_Pi r h) := ab_met (by decide +kernel) (by decide +kernel) (Nat.le_of_ble_eq_true rfl) rfl (x_X11_nextSeed  hf)
set_option maxHeartbeats 4000000 in
set_option maxRecDepth 100000 in
theorem x_X11_drawn {d : Nat} {i0 : Int32} {i1 : Int32} {h : ab_HP} {r : Int32}  (hf : f_X11_drawn i0 i1 h = some r) : ab_T mX11_drawn (d + 0) 0 0 0 0 0 [some (.int i0), some (.int i1)] [] h (ab_Pi r h) := by
  unfold f_X11_drawn at hf
  refine ab_iload_n (pc2 := 1) dX11_drawn_0 rfl rfl ?_
  refine ab_if_gt (tgt := 8) (pc2 := 4) dX11_drawn_1 (by decide) rfl hf (fun c1 hf => ?_) (fun c1 hf => ?_)
  · refine ab_iload_n (pc2 := 9) dX11_drawn_8 rfl rfl ?_
    refine ab_ldcw (pc2 := 12) (v := 2147483647) dX11_drawn_9 rfl tw_303 ?_
    refine ab_iand (pc2 := 13) dX11_drawn_12 rfl ?_
    refine ab_ldcw (pc2 := 16) (v := 65536) dX11_drawn_13 rfl tw_304 ?_
    refine ab_idiv (pc2 := 17) dX11_drawn_16 rfl (by decide) ?_
    refine ab_iload_n (pc2 := 18) dX11_drawn_17 rfl rfl ?_
    obtain ⟨hz, hf⟩ := ab_guardN hf
    refine ab_irem (pc2 := 19) dX11_drawn_18 rfl hz ?_
    cases Option.some.inj hf
    exact ab_retI dX11_drawn_19 (Or.inl rfl) (Nat.le_refl _) (Nat.le_refl _) ⟨rfl, rfl⟩
  · refine ab_iconst (pc2 := 5) (v := 0) dX11_drawn_4 rfl ab_k_iconst_0 ?_
    refine ab_goto (tgt := 19) dX11_drawn_5 (by decide) ?_
    cases Option.some.inj hf
    exact ab_retI dX11_drawn_19 (Or.inl rfl) (Nat.le_refl _) (Nat.le_refl _) ⟨rfl, rfl⟩
set_option maxHeartbeats 4000000 in
set_option maxRecDepth 100000 in
theorem m_X11_drawn {d : Nat} {i0 : Int32} {i1 : Int32} {h : ab_HP} {r : Int32}  (hf : f_X11_drawn i0 i1 h = some r) : ab_MET mX11_drawn (d + 0) 0 0 [.int i0, .int i1] h (ab_Pi r h) := ab_met (by decide +kernel) (by decide +kernel) (Nat.le_of_ble_eq_true rfl) rfl (x_X11_drawn  hf)
set_option maxHeartbeats 4000000 in
set_option maxRecDepth 100000 in
theorem x_X11_playSeeds_l66 {d : Nat} {k29 : Int32 → Int32 → Int32 → Int32 → ab_HP → Option (Int32 × ab_HP)} {t0 : Nat} {r : (Int32 × ab_HP)} (ht0 : (ab_shp t0).1 = 0) (hk29 : ∀ (i1 : Int32) (i3 : Int32) (i4 : Int32) (i5 : Int32) (h : ab_HP), k29 i1 i3 i4 i5 h = some r → ab_T mX11_playSeeds (d + 4) 0 0 0 0 29 [some (va_rf (some t0)), some (.int i1), none, some (.int i3), some (.int i4), some (.int i5), none, none] [] h (ab_Pi r.1 r.2)) : ∀ (n : Nat) (i1 : Int32) (i3 : Int32) (i4 : Int32) (i5 : Int32) (i6 : Int32) (i7 : Int32) (h : ab_HP), f_X11_playSeeds_l66 k29 t0 n i1 i3 i4 i5 i6 i7 h = some r → ab_T mX11_playSeeds (d + 4) 0 0 0 0 66 [some (va_rf (some t0)), some (.int i1), none, some (.int i3), some (.int i4), some (.int i5), some (.int i6), some (.int i7)] [] h (ab_Pi r.1 r.2) := by
  intro n
  induction n with
  | zero =>
    intro i1 i3 i4 i5 i6 i7 h hf
    rw [f_X11_playSeeds_l66] at hf
    cases hf
  | succ n ih =>
    intro i1 i3 i4 i5 i6 i7 h hf
    rw [f_X11_playSeeds_l66] at hf
    refine ab_iload (pc2 := 68) dX11_playSeeds_66 rfl rfl ?_
    refine ab_iload (pc2 := 70) dX11_playSeeds_68 rfl rfl ?_
    refine ab_icmp_ge (tgt := 112) (pc2 := 73) dX11_playSeeds_70 (by decide) rfl hf (fun c15 hf => ?_) (fun c15 hf => ?_)
    · refine ab_iload (pc2 := 114) dX11_playSeeds_112 rfl rfl ?_
      obtain ⟨w16, ew16, hf⟩ := ab_bind hf
      refine ab_callS (pc2 := 117) (st := []) (m_X11_nextSeed (d := (d + 3)) ew16) mf_X11_nextSeed tw_305 tw_306 dX11_playSeeds_114 rfl (by omega) (Nat.le_refl _) (Nat.le_refl _) rfl (Nat.le_of_ble_eq_true rfl) (ab_kPi ?_)
      refine ab_istore (pc2 := 119) (lo2 := [some (va_rf _), some (.int _), none, some (.int _), some (.int _), some (.int _), some (.int _), some (.int _)]) dX11_playSeeds_117 rfl (by decide) rfl ?_
      refine ab_aload_n (x := _) (pc2 := 120) dX11_playSeeds_119 rfl rfl ?_
      refine ab_getR (pc2 := 123) rfl ht0 fa_X11_25 dX11_playSeeds_120 rfl (fun T17 => ?_)
      refine ab_aload_n (x := _) (pc2 := 124) dX11_playSeeds_123 rfl rfl ?_
      refine ab_getR (pc2 := 127) rfl ht0 fa_X11_25 dX11_playSeeds_124 rfl (fun T18 => ?_)
      obtain ⟨q19, hq19, hf⟩ := ab_bind hf
      refine ab_getI (pc2 := 130) hq19 (T18 q19 hq19) fa_X11_155 (by decide) dX11_playSeeds_127 rfl ?_
      refine ab_aload_n (x := _) (pc2 := 131) dX11_playSeeds_130 rfl rfl ?_
      refine ab_getR (pc2 := 134) rfl ht0 fa_X11_25 dX11_playSeeds_131 rfl (fun T20 => ?_)
      obtain ⟨q21, hq21, hf⟩ := ab_bind hf
      refine ab_getI (pc2 := 137) hq21 (T20 q21 hq21) fa_X11_162 (by decide) dX11_playSeeds_134 rfl ?_
      obtain ⟨w22, ew22, hf⟩ := ab_bind hf
      refine ab_callV (pc2 := 140) (st := []) hq21 (T20 q21 hq21) (by decide) (m_X10_begin (d := (d + 3)) (T20 q21 hq21) ew22) mf_X10_begin tw_233 tw_184 ts_X10_begin (Or.inl (by decide +kernel)) dX11_playSeeds_137 rfl (by omega) (Nat.le_refl _) (Nat.le_refl _) rfl (Nat.le_of_ble_eq_true rfl) (ab_kPv ?_)
      refine ab_aload_n (x := _) (pc2 := 141) dX11_playSeeds_140 rfl rfl ?_
      refine ab_getR (pc2 := 144) rfl ht0 fa_X11_25 dX11_playSeeds_141 rfl (fun T23 => ?_)
      refine ab_iload (pc2 := 146) dX11_playSeeds_144 rfl rfl ?_
      refine ab_iconst (pc2 := 147) (v := 1) dX11_playSeeds_146 rfl ab_k_iconst_1 ?_
      refine ab_iload (pc2 := 149) dX11_playSeeds_147 rfl rfl ?_
      refine ab_ishl (pc2 := 150) dX11_playSeeds_149 rfl ?_
      obtain ⟨w24, ew24, hf⟩ := ab_bind hf
      refine ab_callS (pc2 := 153) (st := [_]) (m_X11_drawn (d := (d + 3)) ew24) mf_X11_drawn tw_307 tw_308 dX11_playSeeds_150 rfl (by omega) (Nat.le_refl _) (Nat.le_refl _) rfl (Nat.le_of_ble_eq_true rfl) (ab_kPi ?_)
      obtain ⟨q25, hq25, hf⟩ := ab_bind hf
      obtain ⟨w26, ew26, hf⟩ := ab_bind hf
      refine ab_callV (pc2 := 156) (st := []) hq25 (T23 q25 hq25) (by decide) (m_X10_evenYear (d := (d + 0)) (T23 q25 hq25) ew26) mf_X10_evenYear tw_234 tw_186 ts_X10_evenYear (Or.inl (by decide +kernel)) dX11_playSeeds_153 rfl (by omega) (Nat.le_refl _) (Nat.le_refl _) rfl (Nat.le_of_ble_eq_true rfl) (ab_kPv ?_)
      refine ab_aload_n (x := _) (pc2 := 157) dX11_playSeeds_156 rfl rfl ?_
      refine ab_getR (pc2 := 160) rfl ht0 fa_X11_25 dX11_playSeeds_157 rfl (fun T27 => ?_)
      obtain ⟨q28, hq28, hf⟩ := ab_bind hf
      obtain ⟨w29, ew29, hf⟩ := ab_bind hf
      refine ab_callV (pc2 := 163) (st := []) hq28 (T27 q28 hq28) (by decide) (m_X10_oddYear (d := (d + 0)) (T27 q28 hq28) ew29) mf_X10_oddYear tw_267 tw_188 ts_X10_oddYear (Or.inl (by decide +kernel)) dX11_playSeeds_160 rfl (by omega) (Nat.le_refl _) (Nat.le_refl _) rfl (Nat.le_of_ble_eq_true rfl) (ab_kPv ?_)
      refine ab_iload_n (pc2 := 164) dX11_playSeeds_163 rfl rfl ?_
      refine ab_aload_n (x := _) (pc2 := 165) dX11_playSeeds_164 rfl rfl ?_
      refine ab_getR (pc2 := 168) rfl ht0 fa_X11_25 dX11_playSeeds_165 rfl (fun T30 => ?_)
      obtain ⟨q31, hq31, hf⟩ := ab_bind hf
      refine ab_getI (pc2 := 171) hq31 (T30 q31 hq31) fa_X11_163 (by decide) dX11_playSeeds_168 rfl ?_
      obtain ⟨w32, ew32, hf⟩ := ab_bind hf
      refine ab_callS (pc2 := 174) (st := [_]) (m_J6_bitCount_0f7a4 (d := (d + 3)) ew32) mf_J6_bitCount_0f7a4 tw_202 tw_203 dX11_playSeeds_171 rfl (by omega) (Nat.le_refl _) (Nat.le_refl _) rfl (Nat.le_of_ble_eq_true rfl) (ab_kPi ?_)
      refine ab_iadd (pc2 := 175) dX11_playSeeds_174 rfl ?_
      refine ab_istore_n (pc2 := 176) (lo2 := [some (va_rf _), some (.int _), none, some (.int _), some (.int _), some (.int _), some (.int _), some (.int _)]) dX11_playSeeds_175 rfl (by decide) rfl ?_
      refine ab_iinc (pc2 := 179) (v := _ + 1) (lo2 := [some (va_rf _), some (.int _), none, some (.int _), some (.int _), some (.int _), some (.int _), some (.int _)]) dX11_playSeeds_176 rfl rfl rfl (by decide) rfl ?_
      refine ab_goto (tgt := 29) dX11_playSeeds_179 (by decide) ?_
      exact ab_weak (hk29 _ _ _ _ _ hf) (ab_leS (ab_leS (ab_leN (ab_leS (ab_leS (ab_leS (ab_leN (ab_leN ab_le0))))))))
    · refine ab_iload (pc2 := 75) dX11_playSeeds_73 rfl rfl ?_
      obtain ⟨w33, ew33, hf⟩ := ab_bind hf
      refine ab_callS (pc2 := 78) (st := []) (m_X11_nextSeed (d := (d + 3)) ew33) mf_X11_nextSeed tw_305 tw_306 dX11_playSeeds_75 rfl (by omega) (Nat.le_refl _) (Nat.le_refl _) rfl (Nat.le_of_ble_eq_true rfl) (ab_kPi ?_)
      refine ab_istore (pc2 := 80) (lo2 := [some (va_rf _), some (.int _), none, some (.int _), some (.int _), some (.int _), some (.int _), some (.int _)]) dX11_playSeeds_78 rfl (by decide) rfl ?_
      refine ab_aload_n (x := _) (pc2 := 81) dX11_playSeeds_80 rfl rfl ?_
      refine ab_getR (pc2 := 84) rfl ht0 fa_X11_25 dX11_playSeeds_81 rfl (fun T34 => ?_)
      refine ab_aload_n (x := _) (pc2 := 85) dX11_playSeeds_84 rfl rfl ?_
      refine ab_getR (pc2 := 88) rfl ht0 fa_X11_10 dX11_playSeeds_85 rfl (fun T35 => ?_)
      refine ab_iload (pc2 := 90) dX11_playSeeds_88 rfl rfl ?_
      refine ab_aload_n (x := _) (pc2 := 91) dX11_playSeeds_90 rfl rfl ?_
      refine ab_getR (pc2 := 94) rfl ht0 fa_X11_10 dX11_playSeeds_91 rfl (fun T36 => ?_)
      obtain ⟨q37, hq37, hf⟩ := ab_bind hf
      refine ab_getI (pc2 := 97) hq37 (T36 q37 hq37) fa_X11_207 (by decide) dX11_playSeeds_94 rfl ?_
      obtain ⟨w38, ew38, hf⟩ := ab_bind hf
      refine ab_callS (pc2 := 100) (st := [_, _]) (m_X11_drawn (d := (d + 3)) ew38) mf_X11_drawn tw_307 tw_308 dX11_playSeeds_97 rfl (by omega) (Nat.le_refl _) (Nat.le_refl _) rfl (Nat.le_of_ble_eq_true rfl) (ab_kPi ?_)
      obtain ⟨w39, ew39, hf⟩ := ab_bind hf
      refine ab_callV (pc2 := 103) (st := [_]) hq37 (T36 q37 hq37) (by decide) (m_X9_deedAt (d := (d + 3)) (T36 q37 hq37) ew39) mf_X9_deedAt tw_127 tw_18 ts_X9_deedAt (Or.inl (by decide +kernel)) dX11_playSeeds_100 rfl (by omega) (Nat.le_refl _) (Nat.le_refl _) rfl (Nat.le_of_ble_eq_true rfl) (ab_kPr fun T40 => ?_)
      obtain ⟨q41, hq41, hf⟩ := ab_bind hf
      obtain ⟨w42, ew42, hf⟩ := ab_bind hf
      refine ab_callV (pc2 := 106) (st := []) hq41 (T34 q41 hq41) (by decide) (m_X10_add (d := (d + 3)) (T34 q41 hq41) T40 ew42) mf_X10_add tw_160 tw_159 ts_X10_add (Or.inl (by decide +kernel)) dX11_playSeeds_103 rfl (by omega) (Nat.le_refl _) (Nat.le_refl _) rfl (Nat.le_of_ble_eq_true rfl) (ab_kPv ?_)
      refine ab_iinc (pc2 := 109) (v := _ + 1) (lo2 := [some (va_rf _), some (.int _), none, some (.int _), some (.int _), some (.int _), some (.int _), some (.int _)]) dX11_playSeeds_106 rfl rfl rfl (by decide) rfl ?_
      refine ab_goto (tgt := 66) dX11_playSeeds_109 (by decide) ?_
      exact ab_weak (ih _ _ _ _ _ _ _ hf) (ab_leS (ab_leS (ab_leN (ab_leS (ab_leS (ab_leS (ab_leS (ab_leS ab_le0))))))))
set_option maxHeartbeats 4000000 in
set_option maxRecDepth 100000 in
theorem x_X11_playSeeds_l29 {d : Nat} {t0 : Nat} {r : (Int32 × ab_HP)} (ht0 : (ab_shp t0).1 = 0) : ∀ (n : Nat) (i1 : Int32) (i3 : Int32) (i4 : Int32) (i5 : Int32) (h : ab_HP), f_X11_playSeeds_l29 t0 n i1 i3 i4 i5 h = some r → ab_T mX11_playSeeds (d + 4) 0 0 0 0 29 [some (va_rf (some t0)), some (.int i1), none, some (.int i3), some (.int i4), some (.int i5), none, none] [] h (ab_Pi r.1 r.2) := by
  intro n
  induction n with
  | zero =>
    intro i1 i3 i4 i5 h hf
    rw [f_X11_playSeeds_l29] at hf
    cases hf
  | succ n ih =>
    intro i1 i3 i4 i5 h hf
    rw [f_X11_playSeeds_l29] at hf
    refine ab_iload (pc2 := 31) dX11_playSeeds_29 rfl rfl ?_
    refine ab_iload_n (pc2 := 32) dX11_playSeeds_31 rfl rfl ?_
    refine ab_icmp_ge (tgt := 182) (pc2 := 35) dX11_playSeeds_32 (by decide) rfl hf (fun c8 hf => ?_) (fun c8 hf => ?_)
    · refine ab_iload_n (pc2 := 183) dX11_playSeeds_182 rfl rfl ?_
      cases Option.some.inj hf
      exact ab_retI dX11_playSeeds_183 (Or.inl rfl) (Nat.le_refl _) (Nat.le_refl _) ⟨rfl, rfl⟩
    · refine ab_aload_n (x := _) (pc2 := 36) dX11_playSeeds_35 rfl rfl ?_
      refine ab_getR (pc2 := 39) rfl ht0 fa_X11_25 dX11_playSeeds_36 rfl (fun T9 => ?_)
      refine ab_aload_n (x := _) (pc2 := 40) dX11_playSeeds_39 rfl rfl ?_
      refine ab_getR (pc2 := 43) rfl ht0 fa_X11_10 dX11_playSeeds_40 rfl (fun T10 => ?_)
      obtain ⟨q11, hq11, hf⟩ := ab_bind hf
      obtain ⟨w12, ew12, hf⟩ := ab_bind hf
      refine ab_callV (pc2 := 46) (st := []) hq11 (T9 q11 hq11) (by decide) (m_X10_open (d := (d + 3)) (T9 q11 hq11) T10 ew12) mf_X10_open tw_158 tw_157 ts_X10_open (Or.inl (by decide +kernel)) dX11_playSeeds_43 rfl (by omega) (Nat.le_refl _) (Nat.le_refl _) rfl (Nat.le_of_ble_eq_true rfl) (ab_kPv ?_)
      refine ab_iload (pc2 := 48) dX11_playSeeds_46 rfl rfl ?_
      obtain ⟨w13, ew13, hf⟩ := ab_bind hf
      refine ab_callS (pc2 := 51) (st := []) (m_X11_nextSeed (d := (d + 3)) ew13) mf_X11_nextSeed tw_305 tw_306 dX11_playSeeds_48 rfl (by omega) (Nat.le_refl _) (Nat.le_refl _) rfl (Nat.le_of_ble_eq_true rfl) (ab_kPi ?_)
      refine ab_istore (pc2 := 53) (lo2 := [some (va_rf _), some (.int _), none, some (.int _), some (.int _), some (.int _), none, none]) dX11_playSeeds_51 rfl (by decide) rfl ?_
      refine ab_iconst (pc2 := 54) (v := 1) dX11_playSeeds_53 rfl ab_k_iconst_1 ?_
      refine ab_iload (pc2 := 56) dX11_playSeeds_54 rfl rfl ?_
      refine ab_iconst (pc2 := 57) (v := 4) dX11_playSeeds_56 rfl ab_k_iconst_4 ?_
      obtain ⟨w14, ew14, hf⟩ := ab_bind hf
      refine ab_callS (pc2 := 60) (st := [_]) (m_X11_drawn (d := (d + 3)) ew14) mf_X11_drawn tw_307 tw_308 dX11_playSeeds_57 rfl (by omega) (Nat.le_refl _) (Nat.le_refl _) rfl (Nat.le_of_ble_eq_true rfl) (ab_kPi ?_)
      refine ab_iadd (pc2 := 61) dX11_playSeeds_60 rfl ?_
      refine ab_istore (pc2 := 63) (lo2 := [some (va_rf _), some (.int _), none, some (.int _), some (.int _), some (.int _), some (.int _), none]) dX11_playSeeds_61 rfl (by decide) rfl ?_
      refine ab_iconst (pc2 := 64) (v := 0) dX11_playSeeds_63 rfl ab_k_iconst_0 ?_
      refine ab_istore (pc2 := 66) (lo2 := [some (va_rf _), some (.int _), none, some (.int _), some (.int _), some (.int _), some (.int _), some (.int _)]) dX11_playSeeds_64 rfl (by decide) rfl ?_
      exact ab_weak (x_X11_playSeeds_l66 ht0 ih _ _ _ _ _ _ _ _ hf) (ab_leS (ab_leS (ab_leN (ab_leS (ab_leS (ab_leS (ab_leS (ab_leS ab_le0))))))))
set_option maxHeartbeats 4000000 in
set_option maxRecDepth 100000 in
theorem x_X11_playSeeds {d : Nat} {t0 : Nat} {i1 : Int32} {i2 : Int32} {h : ab_HP} {r : (Int32 × ab_HP)} (ht0 : (ab_shp t0).1 = 0) (hf : f_X11_playSeeds t0 i1 i2 h = some r) : ab_T mX11_playSeeds (d + 4) 0 0 0 0 0 [some (va_rf (some t0)), some (.int i1), some (.int i2), none, none, none, none, none] [] h (ab_Pi r.1 r.2) := by
  unfold f_X11_playSeeds at hf
  refine ab_iconst (pc2 := 1) (v := 0) dX11_playSeeds_0 rfl ab_k_iconst_0 ?_
  refine ab_istore_n (pc2 := 2) (lo2 := [some (va_rf _), some (.int _), some (.int _), some (.int _), none, none, none, none]) dX11_playSeeds_1 rfl (by decide) rfl ?_
  refine ab_iload_n (pc2 := 3) dX11_playSeeds_2 rfl rfl ?_
  refine ab_istore (pc2 := 5) (lo2 := [some (va_rf _), some (.int _), some (.int _), some (.int _), some (.int _), none, none, none]) dX11_playSeeds_3 rfl (by decide) rfl ?_
  refine ab_aload_n (x := _) (pc2 := 6) dX11_playSeeds_5 rfl rfl ?_
  refine ab_getR (pc2 := 9) rfl ht0 fa_X11_25 dX11_playSeeds_6 rfl (fun T1 => ?_)
  refine ab_aload_n (x := _) (pc2 := 10) dX11_playSeeds_9 rfl rfl ?_
  refine ab_getR (pc2 := 13) rfl ht0 fa_X11_10 dX11_playSeeds_10 rfl (fun T2 => ?_)
  obtain ⟨q3, hq3, hf⟩ := ab_bind hf
  refine ab_getI (pc2 := 16) hq3 (T2 q3 hq3) fa_X11_94 (by decide) dX11_playSeeds_13 rfl ?_
  refine ab_aload_n (x := _) (pc2 := 17) dX11_playSeeds_16 rfl rfl ?_
  refine ab_getR (pc2 := 20) rfl ht0 fa_X11_10 dX11_playSeeds_17 rfl (fun T4 => ?_)
  obtain ⟨q5, hq5, hf⟩ := ab_bind hf
  refine ab_getI (pc2 := 23) hq5 (T4 q5 hq5) fa_X11_97 (by decide) dX11_playSeeds_20 rfl ?_
  obtain ⟨q6, hq6, hf⟩ := ab_bind hf
  obtain ⟨w7, ew7, hf⟩ := ab_bind hf
  refine ab_callV (pc2 := 26) (st := []) hq6 (T1 q6 hq6) (by decide) (m_X10_begin (d := (d + 3)) (T1 q6 hq6) ew7) mf_X10_begin tw_233 tw_184 ts_X10_begin (Or.inl (by decide +kernel)) dX11_playSeeds_23 rfl (by omega) (Nat.le_refl _) (Nat.le_refl _) rfl (Nat.le_of_ble_eq_true rfl) (ab_kPv ?_)
  refine ab_iconst (pc2 := 27) (v := 0) dX11_playSeeds_26 rfl ab_k_iconst_0 ?_
  refine ab_istore (pc2 := 29) (lo2 := [some (va_rf _), some (.int _), some (.int _), some (.int _), some (.int _), some (.int _), none, none]) dX11_playSeeds_27 rfl (by decide) rfl ?_
  exact ab_weak (x_X11_playSeeds_l29 ht0 _ _ _ _ _ _ hf) (ab_leS (ab_leS (ab_leN (ab_leS (ab_leS (ab_leS (ab_leN (ab_leN ab_le0))))))))
set_option maxHeartbeats 4000000 in
set_option maxRecDepth 100000 in
theorem m_X11_playSeeds {d : Nat} {t0 : Nat} {i1 : Int32} {i2 : Int32} {h : ab_HP} {r : (Int32 × ab_HP)} (ht0 : (ab_shp t0).1 = 0) (hf : f_X11_playSeeds t0 i1 i2 h = some r) : ab_MET mX11_playSeeds (d + 4) 0 0 [va_rf (some t0), .int i1, .int i2] h (ab_Pi r.1 r.2) := ab_met (by decide +kernel) (by decide +kernel) (Nat.le_of_ble_eq_true rfl) rfl (x_X11_playSeeds ht0 hf)
set_option maxHeartbeats 4000000 in
set_option maxRecDepth 100000 in
theorem x_X11_seeded {d : Nat} {t0 : Nat} {i1 : Int32} {i2 : Int32} {i3 : Int32} {h : ab_HP} {r : (Int32 × ab_HP)} (ht0 : (ab_shp t0).1 = 0) (hf : f_X11_seeded t0 i1 i2 i3 h = some r) : ab_T mX11_seeded (d + 5) 0 0 0 0 0 [some (va_rf (some t0)), some (.int i1), some (.int i2), some (.int i3), none] [] h (ab_Pi r.1 r.2) := by
  unfold f_X11_seeded at hf
  refine ab_iload_n (pc2 := 1) dX11_seeded_0 rfl rfl ?_
  refine ab_iconst (pc2 := 2) (v := 1) dX11_seeded_1 rfl ab_k_iconst_1 ?_
  refine ab_icmp_lt (tgt := 20) (pc2 := 5) dX11_seeded_2 (by decide) rfl hf (fun c1 hf => ?_) (fun c1 hf => ?_)
  · refine ab_iconst (pc2 := 21) (v := (-1)) dX11_seeded_20 rfl ab_k_iconst_m1 ?_
    cases Option.some.inj hf
    exact ab_retI dX11_seeded_21 (Or.inl rfl) (Nat.le_refl _) (Nat.le_refl _) ⟨rfl, rfl⟩
  · refine ab_iload_n (pc2 := 6) dX11_seeded_5 rfl rfl ?_
    refine ab_bipush (pc2 := 8) (v := 30) dX11_seeded_6 rfl ab_k_bipush_30 ?_
    refine ab_icmp_gt (tgt := 20) (pc2 := 11) dX11_seeded_8 (by decide) rfl hf (fun c2 hf => ?_) (fun c2 hf => ?_)
    · refine ab_iconst (pc2 := 21) (v := (-1)) dX11_seeded_20 rfl ab_k_iconst_m1 ?_
      cases Option.some.inj hf
      exact ab_retI dX11_seeded_21 (Or.inl rfl) (Nat.le_refl _) (Nat.le_refl _) ⟨rfl, rfl⟩
    · refine ab_iload_n (pc2 := 12) dX11_seeded_11 rfl rfl ?_
      refine ab_if_lt (tgt := 20) (pc2 := 15) dX11_seeded_12 (by decide) rfl hf (fun c3 hf => ?_) (fun c3 hf => ?_)
      · refine ab_iconst (pc2 := 21) (v := (-1)) dX11_seeded_20 rfl ab_k_iconst_m1 ?_
        cases Option.some.inj hf
        exact ab_retI dX11_seeded_21 (Or.inl rfl) (Nat.le_refl _) (Nat.le_refl _) ⟨rfl, rfl⟩
      · refine ab_iload_n (pc2 := 16) dX11_seeded_15 rfl rfl ?_
        refine ab_iconst (pc2 := 17) (v := 2) dX11_seeded_16 rfl ab_k_iconst_2 ?_
        refine ab_icmp_le (tgt := 22) (pc2 := 20) dX11_seeded_17 (by decide) rfl hf (fun c4 hf => ?_) (fun c4 hf => ?_)
        · refine ab_aload_n (x := _) (pc2 := 23) dX11_seeded_22 rfl rfl ?_
          refine ab_getR (pc2 := 26) rfl ht0 fa_X11_10 dX11_seeded_23 rfl (fun T5 => ?_)
          obtain ⟨q6, hq6, hf⟩ := ab_bind hf
          refine ab_getI (pc2 := 29) hq6 (T5 q6 hq6) fa_X11_207 (by decide) dX11_seeded_26 rfl ?_
          refine ab_if_ne (tgt := 35) (pc2 := 32) dX11_seeded_29 (by decide) rfl hf (fun c7 hf => ?_) (fun c7 hf => ?_)
          · refine ab_aload_n (x := _) (pc2 := 36) dX11_seeded_35 rfl rfl ?_
            refine ab_iload_n (pc2 := 37) dX11_seeded_36 rfl rfl ?_
            refine ab_iload_n (pc2 := 38) dX11_seeded_37 rfl rfl ?_
            obtain ⟨w8, ew8, hf⟩ := ab_bind hf
            refine ab_callV (pc2 := 41) (st := []) rfl ht0 (by decide) (m_X11_playSeeds (d := (d + 0)) ht0 ew8) mf_X11_playSeeds tw_310 tw_309 ts_X11_playSeeds (Or.inl (by decide +kernel)) dX11_seeded_38 rfl (by omega) (Nat.le_refl _) (Nat.le_refl _) rfl (Nat.le_of_ble_eq_true rfl) (ab_kPi ?_)
            refine ab_istore (pc2 := 43) (lo2 := [some (va_rf _), some (.int _), some (.int _), some (.int _), some (.int _)]) dX11_seeded_41 rfl (by decide) rfl ?_
            refine ab_iload_n (pc2 := 44) dX11_seeded_43 rfl rfl ?_
            refine ab_if_ne (tgt := 57) (pc2 := 47) dX11_seeded_44 (by decide) rfl hf (fun c9 hf => ?_) (fun c9 hf => ?_)
            · refine ab_iload_n (pc2 := 58) dX11_seeded_57 rfl rfl ?_
              refine ab_iconst (pc2 := 59) (v := 1) dX11_seeded_58 rfl ab_k_iconst_1 ?_
              refine ab_icmp_ne (tgt := 72) (pc2 := 62) dX11_seeded_59 (by decide) rfl hf (fun c10 hf => ?_) (fun c10 hf => ?_)
              · refine ab_iload (pc2 := 74) dX11_seeded_72 rfl rfl ?_
                cases Option.some.inj hf
                exact ab_retI dX11_seeded_74 (Or.inl rfl) (Nat.le_refl _) (Nat.le_refl _) ⟨rfl, rfl⟩
              · refine ab_aload_n (x := _) (pc2 := 63) dX11_seeded_62 rfl rfl ?_
                refine ab_getR (pc2 := 66) rfl ht0 fa_X11_25 dX11_seeded_63 rfl (fun T11 => ?_)
                obtain ⟨q12, hq12, hf⟩ := ab_bind hf
                refine ab_getI (pc2 := 69) hq12 (T11 q12 hq12) fa_X11_162 (by decide) dX11_seeded_66 rfl ?_
                refine ab_goto (tgt := 74) dX11_seeded_69 (by decide) ?_
                cases Option.some.inj hf
                exact ab_retI dX11_seeded_74 (Or.inl rfl) (Nat.le_refl _) (Nat.le_refl _) ⟨rfl, rfl⟩
            · refine ab_aload_n (x := _) (pc2 := 48) dX11_seeded_47 rfl rfl ?_
              refine ab_getR (pc2 := 51) rfl ht0 fa_X11_25 dX11_seeded_48 rfl (fun T13 => ?_)
              obtain ⟨q14, hq14, hf⟩ := ab_bind hf
              refine ab_getI (pc2 := 54) hq14 (T13 q14 hq14) fa_X11_155 (by decide) dX11_seeded_51 rfl ?_
              refine ab_goto (tgt := 74) dX11_seeded_54 (by decide) ?_
              cases Option.some.inj hf
              exact ab_retI dX11_seeded_74 (Or.inl rfl) (Nat.le_refl _) (Nat.le_refl _) ⟨rfl, rfl⟩
          · refine ab_bipush (pc2 := 34) (v := (-3)) dX11_seeded_32 rfl ab_k_bipush_m3 ?_
            cases Option.some.inj hf
            exact ab_retI dX11_seeded_34 (Or.inl rfl) (Nat.le_refl _) (Nat.le_refl _) ⟨rfl, rfl⟩
        · refine ab_iconst (pc2 := 21) (v := (-1)) dX11_seeded_20 rfl ab_k_iconst_m1 ?_
          cases Option.some.inj hf
          exact ab_retI dX11_seeded_21 (Or.inl rfl) (Nat.le_refl _) (Nat.le_refl _) ⟨rfl, rfl⟩
set_option maxHeartbeats 4000000 in
set_option maxRecDepth 100000 in
theorem m_X11_seeded {d : Nat} {t0 : Nat} {i1 : Int32} {i2 : Int32} {i3 : Int32} {h : ab_HP} {r : (Int32 × ab_HP)} (ht0 : (ab_shp t0).1 = 0) (hf : f_X11_seeded t0 i1 i2 i3 h = some r) : ab_MET mX11_seeded (d + 5) 0 0 [va_rf (some t0), .int i1, .int i2, .int i3] h (ab_Pi r.1 r.2) := ab_met (by decide +kernel) (by decide +kernel) (Nat.le_of_ble_eq_true rfl) rfl (x_X11_seeded ht0 hf)
set_option maxHeartbeats 4000000 in
set_option maxRecDepth 100000 in
theorem x_X11_firstWrong_b102 {d : Nat} {k23 : Option Nat → Int32 → Int32 → ab_HP → Option (Int32 × ab_HP)} {t0 : Nat} {i1 : Option Nat} {i2 : Int32} {i3 : Int32} {h : ab_HP} {r : (Int32 × ab_HP)} (ht0 : (ab_shp t0).1 = 0) (hk23 : ∀ (i1 : Option Nat) (i2 : Int32) (i3 : Int32) (h : ab_HP), (∀ z, i1 = some z → (ab_shp z).1 = 3) → k23 i1 i2 i3 h = some r → ab_T mX11_firstWrong (d + 4) 0 0 0 0 23 [some (va_rf (some t0)), some (va_rf i1), some (.int i2), some (.int i3), none] [] h (ab_Pi r.1 r.2)) (T_i1 : ∀ z, i1 = some z → (ab_shp z).1 = 3) (hf : f_X11_firstWrong_b102 k23 t0 i1 i2 i3 h = some r) : ab_T mX11_firstWrong (d + 4) 0 0 0 0 102 [some (va_rf (some t0)), some (va_rf i1), some (.int i2), some (.int i3), none] [] h (ab_Pi r.1 r.2) := by
  unfold f_X11_firstWrong_b102 at hf
  refine ab_iconst (pc2 := 103) (v := 0) dX11_firstWrong_102 rfl ab_k_iconst_0 ?_
  refine ab_istore (pc2 := 105) (lo2 := [some (va_rf _), some (va_rf _), some (.int _), some (.int _), some (.int _)]) dX11_firstWrong_103 rfl (by decide) rfl ?_
  refine ab_iload (pc2 := 107) dX11_firstWrong_105 rfl rfl ?_
  refine ab_if_ne (tgt := 124) (pc2 := 110) dX11_firstWrong_107 (by decide) rfl hf (fun c34 hf => ?_) (fun c34 hf => ?_)
  · refine ab_iinc (pc2 := 127) (v := _ + 1) (lo2 := [some (va_rf _), some (va_rf _), some (.int _), some (.int _), some (.int _)]) dX11_firstWrong_124 rfl rfl rfl (by decide) rfl ?_
    refine ab_goto (tgt := 23) dX11_firstWrong_127 (by decide) ?_
    exact ab_weak (hk23 _ _ _ _ T_i1 hf) (ab_leS (ab_leS (ab_leS (ab_leS (ab_leN ab_le0)))))
  · refine ab_aload_n (x := _) (pc2 := 111) dX11_firstWrong_110 rfl rfl ?_
    refine ab_iload_n (pc2 := 112) dX11_firstWrong_111 rfl rfl ?_
    obtain ⟨q35, hq35, hf⟩ := ab_bind hf
    obtain ⟨w36, ew36, hf⟩ := ab_bind hf
    refine ab_callV (pc2 := 115) (st := []) hq35 (T_i1 q35 hq35) (by decide) (m_X6_read (d := (d + 2)) (T_i1 q35 hq35) ew36) mf_X6_read tw_154 tw_24 ts_X6_read (Or.inl (by decide +kernel)) dX11_firstWrong_112 rfl (by omega) (Nat.le_refl _) (Nat.le_refl _) rfl (Nat.le_of_ble_eq_true rfl) (ab_kPi ?_)
    refine ab_aload_n (x := _) (pc2 := 116) dX11_firstWrong_115 rfl rfl ?_
    obtain ⟨w37, ew37, hf⟩ := ab_bind hf
    refine ab_callV (pc2 := 119) (st := [_]) hq35 (T_i1 q35 hq35) (by decide) (m_X6_leastNumber (d := (d + 3)) (T_i1 q35 hq35) ew37) mf_X6_leastNumber tw_319 tw_318 ts_X6_leastNumber (Or.inl (by decide +kernel)) dX11_firstWrong_116 rfl (by omega) (Nat.le_refl _) (Nat.le_refl _) rfl (Nat.le_of_ble_eq_true rfl) (ab_kPi ?_)
    refine ab_icmp_eq (tgt := 124) (pc2 := 122) dX11_firstWrong_119 (by decide) rfl hf (fun c38 hf => ?_) (fun c38 hf => ?_)
    · refine ab_iinc (pc2 := 127) (v := _ + 1) (lo2 := [some (va_rf _), some (va_rf _), some (.int _), some (.int _), some (.int _)]) dX11_firstWrong_124 rfl rfl rfl (by decide) rfl ?_
      refine ab_goto (tgt := 23) dX11_firstWrong_127 (by decide) ?_
      exact ab_weak (hk23 _ _ _ _ T_i1 hf) (ab_leS (ab_leS (ab_leS (ab_leS (ab_leN ab_le0)))))
    · refine ab_iload_n (pc2 := 123) dX11_firstWrong_122 rfl rfl ?_
      cases Option.some.inj hf
      exact ab_retI dX11_firstWrong_123 (Or.inl rfl) (Nat.le_refl _) (Nat.le_refl _) ⟨rfl, rfl⟩
set_option maxHeartbeats 4000000 in
set_option maxRecDepth 100000 in
theorem x_X11_firstWrong_b72 {d : Nat} {k23 : Option Nat → Int32 → Int32 → ab_HP → Option (Int32 × ab_HP)} {t0 : Nat} {i1 : Option Nat} {i2 : Int32} {i3 : Int32} {h : ab_HP} {r : (Int32 × ab_HP)} (ht0 : (ab_shp t0).1 = 0) (hk23 : ∀ (i1 : Option Nat) (i2 : Int32) (i3 : Int32) (h : ab_HP), (∀ z, i1 = some z → (ab_shp z).1 = 3) → k23 i1 i2 i3 h = some r → ab_T mX11_firstWrong (d + 4) 0 0 0 0 23 [some (va_rf (some t0)), some (va_rf i1), some (.int i2), some (.int i3), none] [] h (ab_Pi r.1 r.2)) (T_i1 : ∀ z, i1 = some z → (ab_shp z).1 = 3) (hf : f_X11_firstWrong_b72 k23 t0 i1 i2 i3 h = some r) : ab_T mX11_firstWrong (d + 4) 0 0 0 0 72 [some (va_rf (some t0)), some (va_rf i1), some (.int i2), some (.int i3), none] [] h (ab_Pi r.1 r.2) := by
  unfold f_X11_firstWrong_b72 at hf
  refine ab_iload_n (pc2 := 73) dX11_firstWrong_72 rfl rfl ?_
  refine ab_aload_n (x := _) (pc2 := 74) dX11_firstWrong_73 rfl rfl ?_
  refine ab_getR (pc2 := 77) rfl ht0 fa_X11_25 dX11_firstWrong_74 rfl (fun T22 => ?_)
  obtain ⟨q23, hq23, hf⟩ := ab_bind hf
  refine ab_getI (pc2 := 80) hq23 (T22 q23 hq23) fa_X11_156 (by decide) dX11_firstWrong_77 rfl ?_
  refine ab_icmp_gt (tgt := 102) (pc2 := 83) dX11_firstWrong_80 (by decide) rfl hf (fun c24 hf => ?_) (fun c24 hf => ?_)
  · exact ab_weak (x_X11_firstWrong_b102 ht0 hk23 T_i1 hf) (ab_leS (ab_leS (ab_leS (ab_leS (ab_leN ab_le0)))))
  · refine ab_aload_n (x := _) (pc2 := 84) dX11_firstWrong_83 rfl rfl ?_
    refine ab_iload_n (pc2 := 85) dX11_firstWrong_84 rfl rfl ?_
    obtain ⟨q25, hq25, hf⟩ := ab_bind hf
    obtain ⟨w26, ew26, hf⟩ := ab_bind hf
    refine ab_callV (pc2 := 88) (st := []) hq25 (T_i1 q25 hq25) (by decide) (m_X6_read (d := (d + 2)) (T_i1 q25 hq25) ew26) mf_X6_read tw_154 tw_24 ts_X6_read (Or.inl (by decide +kernel)) dX11_firstWrong_85 rfl (by omega) (Nat.le_refl _) (Nat.le_refl _) rfl (Nat.le_of_ble_eq_true rfl) (ab_kPi ?_)
    refine ab_aload_n (x := _) (pc2 := 89) dX11_firstWrong_88 rfl rfl ?_
    refine ab_getR (pc2 := 92) rfl ht0 fa_X11_25 dX11_firstWrong_89 rfl (fun T27 => ?_)
    obtain ⟨q28, hq28, hf⟩ := ab_bind hf
    refine ab_getI (pc2 := 95) hq28 (T27 q28 hq28) fa_X11_155 (by decide) dX11_firstWrong_92 rfl ?_
    refine ab_icmp_ne (tgt := 102) (pc2 := 98) dX11_firstWrong_95 (by decide) rfl hf (fun c29 hf => ?_) (fun c29 hf => ?_)
    · exact ab_weak (x_X11_firstWrong_b102 ht0 hk23 T_i1 hf) (ab_leS (ab_leS (ab_leS (ab_leS (ab_leN ab_le0)))))
    · refine ab_iconst (pc2 := 99) (v := 1) dX11_firstWrong_98 rfl ab_k_iconst_1 ?_
      refine ab_goto (tgt := 103) dX11_firstWrong_99 (by decide) ?_
      refine ab_istore (pc2 := 105) (lo2 := [some (va_rf _), some (va_rf _), some (.int _), some (.int _), some (.int _)]) dX11_firstWrong_103 rfl (by decide) rfl ?_
      refine ab_iload (pc2 := 107) dX11_firstWrong_105 rfl rfl ?_
      refine ab_if_ne (tgt := 124) (pc2 := 110) dX11_firstWrong_107 (by decide) rfl hf (fun c30 hf => ?_) (fun c30 hf => ?_)
      · refine ab_iinc (pc2 := 127) (v := _ + 1) (lo2 := [some (va_rf _), some (va_rf _), some (.int _), some (.int _), some (.int _)]) dX11_firstWrong_124 rfl rfl rfl (by decide) rfl ?_
        refine ab_goto (tgt := 23) dX11_firstWrong_127 (by decide) ?_
        exact ab_weak (hk23 _ _ _ _ T_i1 hf) (ab_leS (ab_leS (ab_leS (ab_leS (ab_leN ab_le0)))))
      · refine ab_aload_n (x := _) (pc2 := 111) dX11_firstWrong_110 rfl rfl ?_
        refine ab_iload_n (pc2 := 112) dX11_firstWrong_111 rfl rfl ?_
        obtain ⟨w31, ew31, hf⟩ := ab_bind hf
        refine ab_callV (pc2 := 115) (st := []) hq25 (T_i1 q25 hq25) (by decide) (m_X6_read (d := (d + 2)) (T_i1 q25 hq25) ew31) mf_X6_read tw_154 tw_24 ts_X6_read (Or.inl (by decide +kernel)) dX11_firstWrong_112 rfl (by omega) (Nat.le_refl _) (Nat.le_refl _) rfl (Nat.le_of_ble_eq_true rfl) (ab_kPi ?_)
        refine ab_aload_n (x := _) (pc2 := 116) dX11_firstWrong_115 rfl rfl ?_
        obtain ⟨w32, ew32, hf⟩ := ab_bind hf
        refine ab_callV (pc2 := 119) (st := [_]) hq25 (T_i1 q25 hq25) (by decide) (m_X6_leastNumber (d := (d + 3)) (T_i1 q25 hq25) ew32) mf_X6_leastNumber tw_319 tw_318 ts_X6_leastNumber (Or.inl (by decide +kernel)) dX11_firstWrong_116 rfl (by omega) (Nat.le_refl _) (Nat.le_refl _) rfl (Nat.le_of_ble_eq_true rfl) (ab_kPi ?_)
        refine ab_icmp_eq (tgt := 124) (pc2 := 122) dX11_firstWrong_119 (by decide) rfl hf (fun c33 hf => ?_) (fun c33 hf => ?_)
        · refine ab_iinc (pc2 := 127) (v := _ + 1) (lo2 := [some (va_rf _), some (va_rf _), some (.int _), some (.int _), some (.int _)]) dX11_firstWrong_124 rfl rfl rfl (by decide) rfl ?_
          refine ab_goto (tgt := 23) dX11_firstWrong_127 (by decide) ?_
          exact ab_weak (hk23 _ _ _ _ T_i1 hf) (ab_leS (ab_leS (ab_leS (ab_leS (ab_leN ab_le0)))))
        · refine ab_iload_n (pc2 := 123) dX11_firstWrong_122 rfl rfl ?_
          cases Option.some.inj hf
          exact ab_retI dX11_firstWrong_123 (Or.inl rfl) (Nat.le_refl _) (Nat.le_refl _) ⟨rfl, rfl⟩
set_option maxHeartbeats 4000000 in
set_option maxRecDepth 100000 in
theorem x_X11_firstWrong_l23 {d : Nat} {t0 : Nat} {r : (Int32 × ab_HP)} (ht0 : (ab_shp t0).1 = 0) : ∀ (n : Nat) (i1 : Option Nat) (i2 : Int32) (i3 : Int32) (h : ab_HP), (∀ z, i1 = some z → (ab_shp z).1 = 3) → f_X11_firstWrong_l23 t0 n i1 i2 i3 h = some r → ab_T mX11_firstWrong (d + 4) 0 0 0 0 23 [some (va_rf (some t0)), some (va_rf i1), some (.int i2), some (.int i3), none] [] h (ab_Pi r.1 r.2) := by
  intro n
  induction n with
  | zero =>
    intro i1 i2 i3 h T_i1 hf
    rw [f_X11_firstWrong_l23] at hf
    cases hf
  | succ n ih =>
    intro i1 i2 i3 h T_i1 hf
    rw [f_X11_firstWrong_l23] at hf
    refine ab_iload_n (pc2 := 24) dX11_firstWrong_23 rfl rfl ?_
    refine ab_aload_n (x := _) (pc2 := 25) dX11_firstWrong_24 rfl rfl ?_
    obtain ⟨q8, hq8, hf⟩ := ab_bind hf
    refine ab_getI (pc2 := 28) hq8 (T_i1 q8 hq8) fa_X11_182 (by decide) dX11_firstWrong_25 rfl ?_
    refine ab_icmp_ge (tgt := 130) (pc2 := 31) dX11_firstWrong_28 (by decide) rfl hf (fun c9 hf => ?_) (fun c9 hf => ?_)
    · refine ab_bipush (pc2 := 132) (v := (-4)) dX11_firstWrong_130 rfl ab_k_bipush_m4 ?_
      cases Option.some.inj hf
      exact ab_retI dX11_firstWrong_132 (Or.inl rfl) (Nat.le_refl _) (Nat.le_refl _) ⟨rfl, rfl⟩
    · refine ab_iload_n (pc2 := 32) dX11_firstWrong_31 rfl rfl ?_
      refine ab_aload_n (x := _) (pc2 := 33) dX11_firstWrong_32 rfl rfl ?_
      refine ab_getR (pc2 := 36) rfl ht0 fa_X11_25 dX11_firstWrong_33 rfl (fun T10 => ?_)
      obtain ⟨q11, hq11, hf⟩ := ab_bind hf
      refine ab_getI (pc2 := 39) hq11 (T10 q11 hq11) fa_X11_156 (by decide) dX11_firstWrong_36 rfl ?_
      refine ab_icmp_ge (tgt := 54) (pc2 := 42) dX11_firstWrong_39 (by decide) rfl hf (fun c12 hf => ?_) (fun c12 hf => ?_)
      · refine ab_iload_n (pc2 := 55) dX11_firstWrong_54 rfl rfl ?_
        refine ab_aload_n (x := _) (pc2 := 56) dX11_firstWrong_55 rfl rfl ?_
        refine ab_getR (pc2 := 59) rfl ht0 fa_X11_25 dX11_firstWrong_56 rfl (fun T13 => ?_)
        obtain ⟨q14, hq14, hf⟩ := ab_bind hf
        refine ab_getI (pc2 := 62) hq14 (T13 q14 hq14) fa_X11_156 (by decide) dX11_firstWrong_59 rfl ?_
        refine ab_icmp_ne (tgt := 72) (pc2 := 65) dX11_firstWrong_62 (by decide) rfl hf (fun c15 hf => ?_) (fun c15 hf => ?_)
        · exact ab_weak (x_X11_firstWrong_b72 ht0 ih T_i1 hf) (ab_leS (ab_leS (ab_leS (ab_leS (ab_leN ab_le0)))))
        · refine ab_aload_n (x := _) (pc2 := 66) dX11_firstWrong_65 rfl rfl ?_
          refine ab_getR (pc2 := 69) rfl ht0 fa_X11_25 dX11_firstWrong_66 rfl (fun T16 => ?_)
          obtain ⟨q17, hq17, hf⟩ := ab_bind hf
          obtain ⟨w18, ew18, hf⟩ := ab_bind hf
          refine ab_callV (pc2 := 72) (st := []) hq17 (T16 q17 hq17) (by decide) (m_X10_oddYear (d := (d + 0)) (T16 q17 hq17) ew18) mf_X10_oddYear tw_267 tw_188 ts_X10_oddYear (Or.inl (by decide +kernel)) dX11_firstWrong_69 rfl (by omega) (Nat.le_refl _) (Nat.le_refl _) rfl (Nat.le_of_ble_eq_true rfl) (ab_kPv ?_)
          exact ab_weak (x_X11_firstWrong_b72 ht0 ih T_i1 hf) (ab_leS (ab_leS (ab_leS (ab_leS (ab_leN ab_le0)))))
      · refine ab_aload_n (x := _) (pc2 := 43) dX11_firstWrong_42 rfl rfl ?_
        refine ab_getR (pc2 := 46) rfl ht0 fa_X11_25 dX11_firstWrong_43 rfl (fun T19 => ?_)
        refine ab_iload_n (pc2 := 47) dX11_firstWrong_46 rfl rfl ?_
        refine ab_iload_n (pc2 := 48) dX11_firstWrong_47 rfl rfl ?_
        obtain ⟨q20, hq20, hf⟩ := ab_bind hf
        obtain ⟨w21, ew21, hf⟩ := ab_bind hf
        refine ab_callV (pc2 := 51) (st := []) hq20 (T19 q20 hq20) (by decide) (m_X10_evenPlace (d := (d + 1)) (T19 q20 hq20) ew21) mf_X10_evenPlace tw_317 tw_174 ts_X10_evenPlace (Or.inl (by decide +kernel)) dX11_firstWrong_48 rfl (by omega) (Nat.le_refl _) (Nat.le_refl _) rfl (Nat.le_of_ble_eq_true rfl) (ab_kPv ?_)
        refine ab_goto (tgt := 72) dX11_firstWrong_51 (by decide) ?_
        exact ab_weak (x_X11_firstWrong_b72 ht0 ih T_i1 hf) (ab_leS (ab_leS (ab_leS (ab_leS (ab_leN ab_le0)))))
set_option maxHeartbeats 4000000 in
set_option maxRecDepth 100000 in
theorem x_X11_firstWrong {d : Nat} {t0 : Nat} {i1 : Option Nat} {i2 : Int32} {h : ab_HP} {r : (Int32 × ab_HP)} (ht0 : (ab_shp t0).1 = 0) (T_i1 : ∀ z, i1 = some z → (ab_shp z).1 = 3) (hf : f_X11_firstWrong t0 i1 i2 h = some r) : ab_T mX11_firstWrong (d + 4) 0 0 0 0 0 [some (va_rf (some t0)), some (va_rf i1), some (.int i2), none, none] [] h (ab_Pi r.1 r.2) := by
  unfold f_X11_firstWrong at hf
  refine ab_aload_n (x := _) (pc2 := 1) dX11_firstWrong_0 rfl rfl ?_
  refine ab_getR (pc2 := 4) rfl ht0 fa_X11_25 dX11_firstWrong_1 rfl (fun T1 => ?_)
  refine ab_aload_n (x := _) (pc2 := 5) dX11_firstWrong_4 rfl rfl ?_
  refine ab_getR (pc2 := 8) rfl ht0 fa_X11_10 dX11_firstWrong_5 rfl (fun T2 => ?_)
  obtain ⟨q3, hq3, hf⟩ := ab_bind hf
  refine ab_getI (pc2 := 11) hq3 (T2 q3 hq3) fa_X11_94 (by decide) dX11_firstWrong_8 rfl ?_
  refine ab_aload_n (x := _) (pc2 := 12) dX11_firstWrong_11 rfl rfl ?_
  refine ab_getR (pc2 := 15) rfl ht0 fa_X11_10 dX11_firstWrong_12 rfl (fun T4 => ?_)
  obtain ⟨q5, hq5, hf⟩ := ab_bind hf
  refine ab_getI (pc2 := 18) hq5 (T4 q5 hq5) fa_X11_97 (by decide) dX11_firstWrong_15 rfl ?_
  obtain ⟨q6, hq6, hf⟩ := ab_bind hf
  obtain ⟨w7, ew7, hf⟩ := ab_bind hf
  refine ab_callV (pc2 := 21) (st := []) hq6 (T1 q6 hq6) (by decide) (m_X10_begin (d := (d + 3)) (T1 q6 hq6) ew7) mf_X10_begin tw_233 tw_184 ts_X10_begin (Or.inl (by decide +kernel)) dX11_firstWrong_18 rfl (by omega) (Nat.le_refl _) (Nat.le_refl _) rfl (Nat.le_of_ble_eq_true rfl) (ab_kPv ?_)
  refine ab_iconst (pc2 := 22) (v := 0) dX11_firstWrong_21 rfl ab_k_iconst_0 ?_
  refine ab_istore_n (pc2 := 23) (lo2 := [some (va_rf _), some (va_rf _), some (.int _), some (.int _), none]) dX11_firstWrong_22 rfl (by decide) rfl ?_
  exact ab_weak (x_X11_firstWrong_l23 ht0 _ _ _ _ _ T_i1 hf) (ab_leS (ab_leS (ab_leS (ab_leS (ab_leN ab_le0)))))
set_option maxHeartbeats 4000000 in
set_option maxRecDepth 100000 in
theorem m_X11_firstWrong {d : Nat} {t0 : Nat} {i1 : Option Nat} {i2 : Int32} {h : ab_HP} {r : (Int32 × ab_HP)} (ht0 : (ab_shp t0).1 = 0) (T_i1 : ∀ z, i1 = some z → (ab_shp z).1 = 3) (hf : f_X11_firstWrong t0 i1 i2 h = some r) : ab_MET mX11_firstWrong (d + 4) 0 0 [va_rf (some t0), va_rf i1, .int i2] h (ab_Pi r.1 r.2) := ab_met (by decide +kernel) (by decide +kernel) (by simp [ab_lo, ab_rf1, ab_cI, ab_cJ]) (by simp [ab_lo0, ab_lo, ab_rf1, ab_cI, ab_cJ, List.replicate]) (x_X11_firstWrong ht0 T_i1 hf)
set_option maxHeartbeats 4000000 in
set_option maxRecDepth 100000 in
theorem x_X11_judge_b40 {d : Nat} {t0 : Nat} {i2 : Int32} {i4 : Option Nat} {i5 : Int32} {h : ab_HP} {r : (Int32 × ab_HP)} (ht0 : (ab_shp t0).1 = 0) (T_i4 : ∀ z, i4 = some z → (ab_shp z).1 = 3) (hf : f_X11_judge_b40 t0 i2 i4 i5 h = some r) : ab_T mX11_judge (d + 5) 0 0 0 0 40 [some (va_rf (some t0)), none, some (.int i2), none, some (va_rf i4), some (.int i5)] [] h (ab_Pi r.1 r.2) := by
  unfold f_X11_judge_b40 at hf
  refine ab_iload (pc2 := 42) dX11_judge_40 rfl rfl ?_
  refine ab_if_eq (tgt := 50) (pc2 := 45) dX11_judge_42 (by decide) rfl hf (fun c10 hf => ?_) (fun c10 hf => ?_)
  · refine ab_aload_n (x := _) (pc2 := 51) dX11_judge_50 rfl rfl ?_
    refine ab_aload (x := _) (pc2 := 53) dX11_judge_51 rfl rfl ?_
    refine ab_iload_n (pc2 := 54) dX11_judge_53 rfl rfl ?_
    obtain ⟨w11, ew11, hf⟩ := ab_bind hf
    refine ab_callV (pc2 := 57) (st := []) rfl ht0 (by decide) (m_X11_firstWrong (d := (d + 0)) ht0 T_i4 ew11) mf_X11_firstWrong tw_321 tw_320 ts_X11_firstWrong (Or.inl (by decide +kernel)) dX11_judge_54 rfl (by omega) (Nat.le_refl _) (Nat.le_refl _) rfl (Nat.le_of_ble_eq_true rfl) (ab_kPi ?_)
    cases Option.some.inj hf
    exact ab_retI dX11_judge_57 (Or.inl rfl) (Nat.le_refl _) (Nat.le_refl _) ⟨rfl, rfl⟩
  · refine ab_iload (pc2 := 47) dX11_judge_45 rfl rfl ?_
    refine ab_goto (tgt := 57) dX11_judge_47 (by decide) ?_
    cases Option.some.inj hf
    exact ab_retI dX11_judge_57 (Or.inl rfl) (Nat.le_refl _) (Nat.le_refl _) ⟨rfl, rfl⟩
set_option maxHeartbeats 4000000 in
set_option maxRecDepth 100000 in
theorem x_X11_judge {d : Nat} {t0 : Nat} {i1 : Int32} {i2 : Int32} {i3 : Int32} {h : ab_HP} {r : (Int32 × ab_HP)} (ht0 : (ab_shp t0).1 = 0) (hf : f_X11_judge t0 i1 i2 i3 h = some r) : ab_T mX11_judge (d + 5) 0 0 0 0 0 [some (va_rf (some t0)), some (.int i1), some (.int i2), some (.int i3), none, none] [] h (ab_Pi r.1 r.2) := by
  unfold f_X11_judge at hf
  refine ab_aload_n (x := _) (pc2 := 1) dX11_judge_0 rfl rfl ?_
  refine ab_iload_n (pc2 := 2) dX11_judge_1 rfl rfl ?_
  obtain ⟨w1, ew1, hf⟩ := ab_bind hf
  refine ab_callV (pc2 := 5) (st := []) rfl ht0 (by decide) (m_X11_shelfAt (d := (d + 4)) ht0 ew1) mf_X11_shelfAt tw_93 tw_92 ts_X11_shelfAt (Or.inl (by decide +kernel)) dX11_judge_2 rfl (by omega) (Nat.le_refl _) (Nat.le_refl _) rfl (Nat.le_of_ble_eq_true rfl) (ab_kPr fun T2 => ?_)
  refine ab_astore (pc2 := 7) (lo2 := [some (va_rf _), some (.int _), some (.int _), some (.int _), some (va_rf _), none]) dX11_judge_5 rfl (by decide) rfl ?_
  refine ab_aload (x := _) (pc2 := 9) dX11_judge_7 rfl rfl ?_
  refine ab_nul (tgt := 19) (pc2 := 12) dX11_judge_9 (by decide) rfl hf (fun hq3 hf => ?_) (fun q3 hq3 hf => ?_)
  · refine ab_iconst (pc2 := 20) (v := (-1)) dX11_judge_19 rfl ab_k_iconst_m1 ?_
    cases Option.some.inj hf
    exact ab_retI dX11_judge_20 (Or.inl rfl) (Nat.le_refl _) (Nat.le_refl _) ⟨rfl, rfl⟩
  · refine ab_iload_n (pc2 := 13) dX11_judge_12 rfl rfl ?_
    obtain ⟨w4, ew4, hf⟩ := ab_bind hf
    refine ab_callS (pc2 := 16) (st := []) (m_X11_areNails (d := (d + 4)) ew4) mf_X11_areNails tw_190 tw_191 dX11_judge_13 rfl (by omega) (Nat.le_refl _) (Nat.le_refl _) rfl (Nat.le_of_ble_eq_true rfl) (ab_kPb fun z5 => ?_)
    refine ab_if_ne (tgt := 21) (pc2 := 19) dX11_judge_16 (by decide) rfl hf (fun c6 hf => ?_) (fun c6 hf => ?_)
    · refine ab_aload_n (x := _) (pc2 := 22) dX11_judge_21 rfl rfl ?_
      refine ab_iload_n (pc2 := 23) dX11_judge_22 rfl rfl ?_
      obtain ⟨w7, ew7, hf⟩ := ab_bind hf
      refine ab_callV (pc2 := 26) (st := []) rfl ht0 (by decide) (m_X11_takeList (d := (d + 1)) ht0 ew7) mf_X11_takeList tw_193 tw_192 ts_X11_takeList (Or.inl (by decide +kernel)) dX11_judge_23 rfl (by omega) (Nat.le_refl _) (Nat.le_refl _) rfl (Nat.le_of_ble_eq_true rfl) (ab_kPi ?_)
      refine ab_istore (pc2 := 28) (lo2 := [some (va_rf _), some (.int _), some (.int _), some (.int _), some (va_rf _), some (.int _)]) dX11_judge_26 rfl (by decide) (ab_st1_rf (j := 4) rfl rfl) ?_
      refine ab_iload (pc2 := 30) dX11_judge_28 rfl rfl ?_
      refine ab_if_ne (tgt := 40) (pc2 := 33) dX11_judge_30 (by decide) rfl hf (fun c8 hf => ?_) (fun c8 hf => ?_)
      · exact ab_weak (x_X11_judge_b40 ht0 T2 hf) (ab_leS (ab_leN (ab_leS (ab_leN (ab_leS (ab_leS ab_le0))))))
      · refine ab_aload (x := _) (pc2 := 35) dX11_judge_33 rfl rfl ?_
        obtain ⟨w9, ew9, hf⟩ := ab_bind hf
        refine ab_callV (pc2 := 38) (st := []) hq3 (T2 q3 hq3) (by decide) (m_X6_rowRefusal (d := (d + 3)) (T2 q3 hq3) ew9) mf_X6_rowRefusal tw_279 tw_278 ts_X6_rowRefusal (Or.inl (by decide +kernel)) dX11_judge_35 rfl (by omega) (Nat.le_refl _) (Nat.le_refl _) rfl (Nat.le_of_ble_eq_true rfl) (ab_kPi ?_)
        refine ab_istore (pc2 := 40) (lo2 := [some (va_rf _), some (.int _), some (.int _), some (.int _), some (va_rf _), some (.int _)]) dX11_judge_38 rfl (by decide) (ab_st1_rf (j := 4) rfl rfl) ?_
        exact ab_weak (x_X11_judge_b40 ht0 T2 hf) (ab_leS (ab_leN (ab_leS (ab_leN (ab_leS (ab_leS ab_le0))))))
    · refine ab_iconst (pc2 := 20) (v := (-1)) dX11_judge_19 rfl ab_k_iconst_m1 ?_
      cases Option.some.inj hf
      exact ab_retI dX11_judge_20 (Or.inl rfl) (Nat.le_refl _) (Nat.le_refl _) ⟨rfl, rfl⟩
set_option maxHeartbeats 4000000 in
set_option maxRecDepth 100000 in
theorem m_X11_judge {d : Nat} {t0 : Nat} {i1 : Int32} {i2 : Int32} {i3 : Int32} {h : ab_HP} {r : (Int32 × ab_HP)} (ht0 : (ab_shp t0).1 = 0) (hf : f_X11_judge t0 i1 i2 i3 h = some r) : ab_MET mX11_judge (d + 5) 0 0 [va_rf (some t0), .int i1, .int i2, .int i3] h (ab_Pi r.1 r.2) := ab_met (by decide +kernel) (by decide +kernel) (Nat.le_of_ble_eq_true rfl) rfl (x_X11_judge ht0 hf)
set_option maxHeartbeats 4000000 in
set_option maxRecDepth 100000 in
theorem x_X11_image {d : Nat} {t0 : Nat} {h : ab_HP} {r : (Int32 × ab_HP)} (ht0 : (ab_shp t0).1 = 0) (hf : f_X11_image t0 h = some r) : ab_T mX11_image (d + 2) 0 0 0 0 0 [some (va_rf (some t0))] [] h (ab_Pi r.1 r.2) := by
  unfold f_X11_image at hf
  refine ab_aload_n (x := _) (pc2 := 1) dX11_image_0 rfl rfl ?_
  refine ab_getR (pc2 := 4) rfl ht0 fa_X11_16 dX11_image_1 rfl (fun T1 => ?_)
  refine ab_aload_n (x := _) (pc2 := 5) dX11_image_4 rfl rfl ?_
  refine ab_getR (pc2 := 8) rfl ht0 fa_X11_10 dX11_image_5 rfl (fun T2 => ?_)
  obtain ⟨q3, hq3, hf⟩ := ab_bind hf
  obtain ⟨w4, ew4, hf⟩ := ab_bind hf
  refine ab_callV (pc2 := 11) (st := []) hq3 (T1 q3 hq3) (by decide) (m_X9_become (d := (d + 0)) (T1 q3 hq3) T2 ew4) mf_X9_become tw_97 tw_96 ts_X9_become (Or.inl (by decide +kernel)) dX11_image_8 rfl (by omega) (Nat.le_refl _) (Nat.le_refl _) rfl (Nat.le_of_ble_eq_true rfl) (ab_kPv ?_)
  refine ab_aload_n (x := _) (pc2 := 12) dX11_image_11 rfl rfl ?_
  refine ab_iconst (pc2 := 13) (v := 1) dX11_image_12 rfl ab_k_iconst_1 ?_
  obtain ⟨h5, eh5, hf⟩ := ab_let_x hf
  refine ab_putI (pc2 := 16) rfl ht0 fa_X11_237 (Or.inr ⟨rfl, (Or.inr rfl)⟩) (fun z => by cases z) dX11_image_13 rfl ?_
  refine ab_topH eh5 ?_
  refine ab_aload_n (x := _) (pc2 := 17) dX11_image_16 rfl rfl ?_
  refine ab_getR (pc2 := 20) rfl ht0 fa_X11_10 dX11_image_17 rfl (fun T6 => ?_)
  obtain ⟨q7, hq7, hf⟩ := ab_bind hf
  refine ab_getI (pc2 := 23) hq7 (T6 q7 hq7) fa_X11_100 (by decide) dX11_image_20 rfl ?_
  cases Option.some.inj hf
  exact ab_retI dX11_image_23 (Or.inl rfl) (Nat.le_refl _) (Nat.le_refl _) ⟨rfl, rfl⟩
set_option maxHeartbeats 4000000 in
set_option maxRecDepth 100000 in
theorem m_X11_image {d : Nat} {t0 : Nat} {h : ab_HP} {r : (Int32 × ab_HP)} (ht0 : (ab_shp t0).1 = 0) (hf : f_X11_image t0 h = some r) : ab_MET mX11_image (d + 2) 0 0 [va_rf (some t0)] h (ab_Pi r.1 r.2) := ab_met (by decide +kernel) (by decide +kernel) (Nat.le_of_ble_eq_true rfl) rfl (x_X11_image ht0 hf)
set_option maxHeartbeats 4000000 in
set_option maxRecDepth 100000 in
theorem x_X11_restore {d : Nat} {t0 : Nat} {h : ab_HP} {r : (Int32 × ab_HP)} (ht0 : (ab_shp t0).1 = 0) (hf : f_X11_restore t0 h = some r) : ab_T mX11_restore (d + 2) 0 0 0 0 0 [some (va_rf (some t0))] [] h (ab_Pi r.1 r.2) := by
  unfold f_X11_restore at hf
  refine ab_aload_n (x := _) (pc2 := 1) dX11_restore_0 rfl rfl ?_
  refine ab_getI (pc2 := 4) rfl ht0 fa_X11_237 (by decide) dX11_restore_1 rfl ?_
  refine ab_if_ne (tgt := 10) (pc2 := 7) dX11_restore_4 (by decide) rfl hf (fun c1 hf => ?_) (fun c1 hf => ?_)
  · refine ab_aload_n (x := _) (pc2 := 11) dX11_restore_10 rfl rfl ?_
    refine ab_getR (pc2 := 14) rfl ht0 fa_X11_10 dX11_restore_11 rfl (fun T2 => ?_)
    refine ab_aload_n (x := _) (pc2 := 15) dX11_restore_14 rfl rfl ?_
    refine ab_getR (pc2 := 18) rfl ht0 fa_X11_16 dX11_restore_15 rfl (fun T3 => ?_)
    obtain ⟨q4, hq4, hf⟩ := ab_bind hf
    obtain ⟨w5, ew5, hf⟩ := ab_bind hf
    refine ab_callV (pc2 := 21) (st := []) hq4 (T2 q4 hq4) (by decide) (m_X9_become (d := (d + 0)) (T2 q4 hq4) T3 ew5) mf_X9_become tw_97 tw_96 ts_X9_become (Or.inl (by decide +kernel)) dX11_restore_18 rfl (by omega) (Nat.le_refl _) (Nat.le_refl _) rfl (Nat.le_of_ble_eq_true rfl) (ab_kPv ?_)
    refine ab_aload_n (x := _) (pc2 := 22) dX11_restore_21 rfl rfl ?_
    refine ab_getR (pc2 := 25) rfl ht0 fa_X11_10 dX11_restore_22 rfl (fun T6 => ?_)
    obtain ⟨q7, hq7, hf⟩ := ab_bind hf
    refine ab_getI (pc2 := 28) hq7 (T6 q7 hq7) fa_X11_100 (by decide) dX11_restore_25 rfl ?_
    cases Option.some.inj hf
    exact ab_retI dX11_restore_28 (Or.inl rfl) (Nat.le_refl _) (Nat.le_refl _) ⟨rfl, rfl⟩
  · refine ab_bipush (pc2 := 9) (v := (-3)) dX11_restore_7 rfl ab_k_bipush_m3 ?_
    cases Option.some.inj hf
    exact ab_retI dX11_restore_9 (Or.inl rfl) (Nat.le_refl _) (Nat.le_refl _) ⟨rfl, rfl⟩
set_option maxHeartbeats 4000000 in
set_option maxRecDepth 100000 in
theorem m_X11_restore {d : Nat} {t0 : Nat} {h : ab_HP} {r : (Int32 × ab_HP)} (ht0 : (ab_shp t0).1 = 0) (hf : f_X11_restore t0 h = some r) : ab_MET mX11_restore (d + 2) 0 0 [va_rf (some t0)] h (ab_Pi r.1 r.2) := ab_met (by decide +kernel) (by decide +kernel) (Nat.le_of_ble_eq_true rfl) rfl (x_X11_restore ht0 hf)
