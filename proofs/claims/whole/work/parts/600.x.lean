set_option maxHeartbeats 4000000 in
set_option maxRecDepth 100000 in
theorem x_J6_bitCount_0f7a4 {d : Nat} {i0 : Int32} {h : ab_HP} {r : Int32}  (hf : f_J6_bitCount_0f7a4 i0 h = some r) : ab_T mJ6_bitCount_0f7a4 (d + 0) 0 0 0 0 0 [some (.int i0)] [] h (ab_Pi r h) := by
  unfold f_J6_bitCount_0f7a4 at hf
  refine ab_iload_n (pc2 := 1) dJ6_bitCount_0f7a4_0 rfl rfl ?_
  refine ab_iload_n (pc2 := 2) dJ6_bitCount_0f7a4_1 rfl rfl ?_
  refine ab_iconst (pc2 := 3) (v := 1) dJ6_bitCount_0f7a4_2 rfl ab_k_iconst_1 ?_
  refine ab_iushr (pc2 := 4) dJ6_bitCount_0f7a4_3 rfl ?_
  refine ab_ldcw (pc2 := 7) (v := 1431655765) dJ6_bitCount_0f7a4_4 rfl tw_0 ?_
  refine ab_iand (pc2 := 8) dJ6_bitCount_0f7a4_7 rfl ?_
  refine ab_isub (pc2 := 9) dJ6_bitCount_0f7a4_8 rfl ?_
  obtain ⟨v1, ev1, hf⟩ := ab_let_x hf
  refine ab_topI ev1 ?_
  refine ab_istore_n (pc2 := 10) (lo2 := [some (.int _)]) dJ6_bitCount_0f7a4_9 rfl (by decide) rfl ?_
  refine ab_iload_n (pc2 := 11) dJ6_bitCount_0f7a4_10 rfl rfl ?_
  refine ab_ldcw (pc2 := 14) (v := 858993459) dJ6_bitCount_0f7a4_11 rfl tw_1 ?_
  refine ab_iand (pc2 := 15) dJ6_bitCount_0f7a4_14 rfl ?_
  refine ab_iload_n (pc2 := 16) dJ6_bitCount_0f7a4_15 rfl rfl ?_
  refine ab_iconst (pc2 := 17) (v := 2) dJ6_bitCount_0f7a4_16 rfl ab_k_iconst_2 ?_
  refine ab_iushr (pc2 := 18) dJ6_bitCount_0f7a4_17 rfl ?_
  refine ab_ldcw (pc2 := 21) (v := 858993459) dJ6_bitCount_0f7a4_18 rfl tw_1 ?_
  refine ab_iand (pc2 := 22) dJ6_bitCount_0f7a4_21 rfl ?_
  refine ab_iadd (pc2 := 23) dJ6_bitCount_0f7a4_22 rfl ?_
  obtain ⟨v2, ev2, hf⟩ := ab_let_x hf
  refine ab_topI ev2 ?_
  refine ab_istore_n (pc2 := 24) (lo2 := [some (.int _)]) dJ6_bitCount_0f7a4_23 rfl (by decide) rfl ?_
  refine ab_iload_n (pc2 := 25) dJ6_bitCount_0f7a4_24 rfl rfl ?_
  refine ab_iload_n (pc2 := 26) dJ6_bitCount_0f7a4_25 rfl rfl ?_
  refine ab_iconst (pc2 := 27) (v := 4) dJ6_bitCount_0f7a4_26 rfl ab_k_iconst_4 ?_
  refine ab_iushr (pc2 := 28) dJ6_bitCount_0f7a4_27 rfl ?_
  refine ab_iadd (pc2 := 29) dJ6_bitCount_0f7a4_28 rfl ?_
  refine ab_ldcw (pc2 := 32) (v := 252645135) dJ6_bitCount_0f7a4_29 rfl tw_2 ?_
  refine ab_iand (pc2 := 33) dJ6_bitCount_0f7a4_32 rfl ?_
  obtain ⟨v3, ev3, hf⟩ := ab_let_x hf
  refine ab_topI ev3 ?_
  refine ab_istore_n (pc2 := 34) (lo2 := [some (.int _)]) dJ6_bitCount_0f7a4_33 rfl (by decide) rfl ?_
  refine ab_iload_n (pc2 := 35) dJ6_bitCount_0f7a4_34 rfl rfl ?_
  refine ab_iload_n (pc2 := 36) dJ6_bitCount_0f7a4_35 rfl rfl ?_
  refine ab_bipush (pc2 := 38) (v := 8) dJ6_bitCount_0f7a4_36 rfl ab_k_bipush_8 ?_
  refine ab_iushr (pc2 := 39) dJ6_bitCount_0f7a4_38 rfl ?_
  refine ab_iadd (pc2 := 40) dJ6_bitCount_0f7a4_39 rfl ?_
  obtain ⟨v4, ev4, hf⟩ := ab_let_x hf
  refine ab_topI ev4 ?_
  refine ab_istore_n (pc2 := 41) (lo2 := [some (.int _)]) dJ6_bitCount_0f7a4_40 rfl (by decide) rfl ?_
  refine ab_iload_n (pc2 := 42) dJ6_bitCount_0f7a4_41 rfl rfl ?_
  refine ab_iload_n (pc2 := 43) dJ6_bitCount_0f7a4_42 rfl rfl ?_
  refine ab_bipush (pc2 := 45) (v := 16) dJ6_bitCount_0f7a4_43 rfl ab_k_bipush_16 ?_
  refine ab_iushr (pc2 := 46) dJ6_bitCount_0f7a4_45 rfl ?_
  refine ab_iadd (pc2 := 47) dJ6_bitCount_0f7a4_46 rfl ?_
  obtain ⟨v5, ev5, hf⟩ := ab_let_x hf
  refine ab_topI ev5 ?_
  refine ab_istore_n (pc2 := 48) (lo2 := [some (.int _)]) dJ6_bitCount_0f7a4_47 rfl (by decide) rfl ?_
  refine ab_iload_n (pc2 := 49) dJ6_bitCount_0f7a4_48 rfl rfl ?_
  refine ab_bipush (pc2 := 51) (v := 63) dJ6_bitCount_0f7a4_49 rfl ab_k_bipush_63 ?_
  refine ab_iand (pc2 := 52) dJ6_bitCount_0f7a4_51 rfl ?_
  cases Option.some.inj hf
  exact ab_retI dJ6_bitCount_0f7a4_52 (Or.inl rfl) (Nat.le_refl _) (Nat.le_refl _) ⟨rfl, rfl⟩
set_option maxHeartbeats 4000000 in
set_option maxRecDepth 100000 in
theorem m_J6_bitCount_0f7a4 {d : Nat} {i0 : Int32} {h : ab_HP} {r : Int32}  (hf : f_J6_bitCount_0f7a4 i0 h = some r) : ab_MET mJ6_bitCount_0f7a4 (d + 0) 0 0 [.int i0] h (ab_Pi r h) := ab_met (by decide +kernel) (by decide +kernel) (Nat.le_of_ble_eq_true rfl) rfl (x_J6_bitCount_0f7a4  hf)
set_option maxHeartbeats 4000000 in
set_option maxRecDepth 100000 in
theorem x_X9_init {d : Nat} {t0 : Nat} {h : ab_HP} {r : ab_HP} (ht0 : (ab_shp t0).1 = 1) (hf : f_X9_init t0 h = some r) : ab_T mX9_init (d + 1) 1 8 0 0 0 [some (va_rf (some t0))] [] h (ab_Pv r) := by
  unfold f_X9_init at hf
  refine ab_aload_n (x := _) (pc2 := 1) dX9_init_0 rfl rfl ?_
  refine ab_objInit (pc2 := 4) rfl tw_3 tw_4 tw_obj (by omega) (Nat.le_of_ble_eq_true rfl) dX9_init_1 rfl ?_
  refine ab_aload_n (x := _) (pc2 := 5) dX9_init_4 rfl rfl ?_
  refine ab_bipush (pc2 := 7) (v := 8) dX9_init_5 rfl ab_k_bipush_8 ?_
  obtain ⟨b1, hf⟩ := ab_guard hf
  obtain ⟨h2, eh2, hf⟩ := ab_let_x hf
  refine ab_newaR (pc2 := 10) tw_5 (Or.inl ⟨rfl, rfl⟩) b1 (by decide) (by decide) (by decide) (by omega) (by omega) dX9_init_7 rfl ?_
  refine ab_topH eh2 ?_
  obtain ⟨h3, eh3, hf⟩ := ab_let_x hf
  refine ab_putR (pc2 := 13) rfl ht0 fa_X9_11 (ab_ty1 (congrArg Prod.fst b1)) (fun _ => rfl) dX9_init_10 rfl ?_
  refine ab_topH eh3 ?_
  refine ab_aload_n (x := _) (pc2 := 14) dX9_init_13 rfl rfl ?_
  refine ab_bipush (pc2 := 16) (v := 100) dX9_init_14 rfl ab_k_bipush_100 ?_
  obtain ⟨h4, eh4, hf⟩ := ab_let_x hf
  refine ab_putI (pc2 := 19) rfl ht0 fa_X9_17 (Or.inl rfl) (fun z => by cases z) dX9_init_16 rfl ?_
  refine ab_topH eh4 ?_
  refine ab_aload_n (x := _) (pc2 := 20) dX9_init_19 rfl rfl ?_
  refine ab_bipush (pc2 := 22) (v := 10) dX9_init_20 rfl ab_k_bipush_10 ?_
  obtain ⟨h5, eh5, hf⟩ := ab_let_x hf
  refine ab_putI (pc2 := 25) rfl ht0 fa_X9_21 (Or.inl rfl) (fun z => by cases z) dX9_init_22 rfl ?_
  refine ab_topH eh5 ?_
  cases Option.some.inj hf
  exact ab_retV dX9_init_25 rfl (by omega) (by omega) ⟨rfl, rfl⟩
set_option maxHeartbeats 4000000 in
set_option maxRecDepth 100000 in
theorem m_X9_init {d : Nat} {t0 : Nat} {h : ab_HP} {r : ab_HP} (ht0 : (ab_shp t0).1 = 1) (hf : f_X9_init t0 h = some r) : ab_MET mX9_init (d + 1) 1 8 [va_rf (some t0)] h (ab_Pv r) := ab_met (by decide +kernel) (by decide +kernel) (Nat.le_of_ble_eq_true rfl) rfl (x_X9_init ht0 hf)
set_option maxHeartbeats 4000000 in
set_option maxRecDepth 100000 in
theorem x_X10_init {d : Nat} {t0 : Nat} {h : ab_HP} {r : ab_HP} (ht0 : (ab_shp t0).1 = 2) (hf : f_X10_init t0 h = some r) : ab_T mX10_init (d + 1) 3 48 0 0 0 [some (va_rf (some t0))] [] h (ab_Pv r) := by
  unfold f_X10_init at hf
  refine ab_aload_n (x := _) (pc2 := 1) dX10_init_0 rfl rfl ?_
  refine ab_objInit (pc2 := 4) rfl tw_6 tw_4 tw_obj (by omega) (Nat.le_of_ble_eq_true rfl) dX10_init_1 rfl ?_
  refine ab_aload_n (x := _) (pc2 := 5) dX10_init_4 rfl rfl ?_
  refine ab_bipush (pc2 := 7) (v := 16) dX10_init_5 rfl ab_k_bipush_16 ?_
  obtain ⟨b1, hf⟩ := ab_guard hf
  obtain ⟨h2, eh2, hf⟩ := ab_let_x hf
  refine ab_newaR (pc2 := 10) tw_7 (Or.inl ⟨rfl, rfl⟩) b1 (by decide) (by decide) (by decide) (by omega) (by omega) dX10_init_7 rfl ?_
  refine ab_topH eh2 ?_
  obtain ⟨h3, eh3, hf⟩ := ab_let_x hf
  refine ab_putR (pc2 := 13) rfl ht0 fa_X10_11 (ab_ty1 (congrArg Prod.fst b1)) (fun _ => rfl) dX10_init_10 rfl ?_
  refine ab_topH eh3 ?_
  refine ab_aload_n (x := _) (pc2 := 14) dX10_init_13 rfl rfl ?_
  refine ab_bipush (pc2 := 16) (v := 16) dX10_init_14 rfl ab_k_bipush_16 ?_
  obtain ⟨b4, hf⟩ := ab_guard hf
  obtain ⟨h5, eh5, hf⟩ := ab_let_x hf
  refine ab_newaI (pc2 := 18) tw_8 b4 (by decide) (by decide) (by decide) (by omega) (by omega) dX10_init_16 rfl ?_
  refine ab_topH eh5 ?_
  obtain ⟨h6, eh6, hf⟩ := ab_let_x hf
  refine ab_putR (pc2 := 21) rfl ht0 fa_X10_17 (ab_ty1 (congrArg Prod.fst b4)) (fun _ => rfl) dX10_init_18 rfl ?_
  refine ab_topH eh6 ?_
  refine ab_aload_n (x := _) (pc2 := 22) dX10_init_21 rfl rfl ?_
  refine ab_bipush (pc2 := 24) (v := 16) dX10_init_22 rfl ab_k_bipush_16 ?_
  obtain ⟨b7, hf⟩ := ab_guard hf
  obtain ⟨h8, eh8, hf⟩ := ab_let_x hf
  refine ab_newaI (pc2 := 26) tw_8 b7 (by decide) (by decide) (by decide) (by omega) (by omega) dX10_init_24 rfl ?_
  refine ab_topH eh8 ?_
  obtain ⟨h9, eh9, hf⟩ := ab_let_x hf
  refine ab_putR (pc2 := 29) rfl ht0 fa_X10_21 (ab_ty1 (congrArg Prod.fst b7)) (fun _ => rfl) dX10_init_26 rfl ?_
  refine ab_topH eh9 ?_
  cases Option.some.inj hf
  exact ab_retV dX10_init_29 rfl (by omega) (by omega) ⟨rfl, rfl⟩
set_option maxHeartbeats 4000000 in
set_option maxRecDepth 100000 in
theorem m_X10_init {d : Nat} {t0 : Nat} {h : ab_HP} {r : ab_HP} (ht0 : (ab_shp t0).1 = 2) (hf : f_X10_init t0 h = some r) : ab_MET mX10_init (d + 1) 3 48 [va_rf (some t0)] h (ab_Pv r) := ab_met (by decide +kernel) (by decide +kernel) (Nat.le_of_ble_eq_true rfl) rfl (x_X10_init ht0 hf)
set_option maxHeartbeats 4000000 in
set_option maxRecDepth 100000 in
theorem x_X6_init {d : Nat} {t0 : Nat} {h : ab_HP} {r : ab_HP} (ht0 : (ab_shp t0).1 = 3) (hf : f_X6_init t0 h = some r) : ab_T mX6_init (d + 1) 1 100 0 0 0 [some (va_rf (some t0))] [] h (ab_Pv r) := by
  unfold f_X6_init at hf
  refine ab_aload_n (x := _) (pc2 := 1) dX6_init_0 rfl rfl ?_
  refine ab_objInit (pc2 := 4) rfl tw_9 tw_4 tw_obj (by omega) (Nat.le_of_ble_eq_true rfl) dX6_init_1 rfl ?_
  refine ab_aload_n (x := _) (pc2 := 5) dX6_init_4 rfl rfl ?_
  refine ab_bipush (pc2 := 7) (v := 100) dX6_init_5 rfl ab_k_bipush_100 ?_
  obtain ⟨b1, hf⟩ := ab_guard hf
  obtain ⟨h2, eh2, hf⟩ := ab_let_x hf
  refine ab_newaI (pc2 := 9) tw_8 b1 (by decide) (by decide) (by decide) (by omega) (by omega) dX6_init_7 rfl ?_
  refine ab_topH eh2 ?_
  obtain ⟨h3, eh3, hf⟩ := ab_let_x hf
  refine ab_putR (pc2 := 12) rfl ht0 fa_X6_11 (ab_ty1 (congrArg Prod.fst b1)) (fun _ => rfl) dX6_init_9 rfl ?_
  refine ab_topH eh3 ?_
  refine ab_aload_n (x := _) (pc2 := 13) dX6_init_12 rfl rfl ?_
  refine ab_iconst (pc2 := 14) (v := (-1)) dX6_init_13 rfl ab_k_iconst_m1 ?_
  obtain ⟨h4, eh4, hf⟩ := ab_let_x hf
  refine ab_putI (pc2 := 17) rfl ht0 fa_X6_15 (Or.inl rfl) (fun z => by cases z) dX6_init_14 rfl ?_
  refine ab_topH eh4 ?_
  cases Option.some.inj hf
  exact ab_retV dX6_init_17 rfl (by omega) (by omega) ⟨rfl, rfl⟩
set_option maxHeartbeats 4000000 in
set_option maxRecDepth 100000 in
theorem m_X6_init {d : Nat} {t0 : Nat} {h : ab_HP} {r : ab_HP} (ht0 : (ab_shp t0).1 = 3) (hf : f_X6_init t0 h = some r) : ab_MET mX6_init (d + 1) 1 100 [va_rf (some t0)] h (ab_Pv r) := ab_met (by decide +kernel) (by decide +kernel) (Nat.le_of_ble_eq_true rfl) rfl (x_X6_init ht0 hf)
set_option maxHeartbeats 4000000 in
set_option maxRecDepth 100000 in
theorem x_X6_isEmpty {d : Nat} {t0 : Nat} {h : ab_HP} {r : Int32} (ht0 : (ab_shp t0).1 = 3) (hf : f_X6_isEmpty t0 h = some r) : ab_T mX6_isEmpty (d + 0) 0 0 0 0 0 [some (va_rf (some t0))] [] h (ab_Pb r h) := by
  unfold f_X6_isEmpty at hf
  refine ab_aload_n (x := _) (pc2 := 1) dX6_isEmpty_0 rfl rfl ?_
  refine ab_getR (pc2 := 4) rfl ht0 fa_X6_19 dX6_isEmpty_1 rfl (fun T1 => ?_)
  refine ab_nnul (tgt := 19) (pc2 := 7) dX6_isEmpty_4 (by decide) rfl hf (fun hq2 hf => ?_) (fun q2 hq2 hf => ?_)
  · refine ab_aload_n (x := _) (pc2 := 8) dX6_isEmpty_7 rfl rfl ?_
    refine ab_getI (pc2 := 11) rfl ht0 fa_X6_15 (by decide) dX6_isEmpty_8 rfl ?_
    refine ab_iconst (pc2 := 12) (v := (-1)) dX6_isEmpty_11 rfl ab_k_iconst_m1 ?_
    refine ab_icmp_ne (tgt := 19) (pc2 := 15) dX6_isEmpty_12 (by decide) rfl hf (fun c3 hf => ?_) (fun c3 hf => ?_)
    · refine ab_iconst (pc2 := 20) (v := 0) dX6_isEmpty_19 rfl ab_k_iconst_0 ?_
      cases Option.some.inj hf
      exact ab_retI dX6_isEmpty_20 (Or.inr ⟨rfl, (Or.inl rfl)⟩) (Nat.le_refl _) (Nat.le_refl _) ⟨rfl, rfl, (Or.inl rfl)⟩
    · refine ab_iconst (pc2 := 16) (v := 1) dX6_isEmpty_15 rfl ab_k_iconst_1 ?_
      refine ab_goto (tgt := 20) dX6_isEmpty_16 (by decide) ?_
      cases Option.some.inj hf
      exact ab_retI dX6_isEmpty_20 (Or.inr ⟨rfl, (Or.inr rfl)⟩) (Nat.le_refl _) (Nat.le_refl _) ⟨rfl, rfl, (Or.inr rfl)⟩
  · refine ab_iconst (pc2 := 20) (v := 0) dX6_isEmpty_19 rfl ab_k_iconst_0 ?_
    cases Option.some.inj hf
    exact ab_retI dX6_isEmpty_20 (Or.inr ⟨rfl, (Or.inl rfl)⟩) (Nat.le_refl _) (Nat.le_refl _) ⟨rfl, rfl, (Or.inl rfl)⟩
set_option maxHeartbeats 4000000 in
set_option maxRecDepth 100000 in
theorem m_X6_isEmpty {d : Nat} {t0 : Nat} {h : ab_HP} {r : Int32} (ht0 : (ab_shp t0).1 = 3) (hf : f_X6_isEmpty t0 h = some r) : ab_MET mX6_isEmpty (d + 0) 0 0 [va_rf (some t0)] h (ab_Pb r h) := ab_met (by decide +kernel) (by decide +kernel) (Nat.le_of_ble_eq_true rfl) rfl (x_X6_isEmpty ht0 hf)
set_option maxHeartbeats 4000000 in
set_option maxRecDepth 100000 in
theorem x_X6_bytesRefusal {d : Nat} {t0 : Nat} {h : ab_HP} {r : Int32} (ht0 : (ab_shp t0).1 = 3) (hf : f_X6_bytesRefusal t0 h = some r) : ab_T mX6_bytesRefusal (d + 1) 0 0 0 0 0 [some (va_rf (some t0))] [] h (ab_Pi r h) := by
  unfold f_X6_bytesRefusal at hf
  refine ab_aload_n (x := _) (pc2 := 1) dX6_bytesRefusal_0 rfl rfl ?_
  obtain ⟨w1, ew1, hf⟩ := ab_bind hf
  refine ab_callV (pc2 := 4) (st := []) rfl ht0 (by decide) (m_X6_isEmpty (d := (d + 0)) ht0 ew1) mf_X6_isEmpty tw_17 tw_16 ts_X6_isEmpty (Or.inl (by decide +kernel)) dX6_bytesRefusal_1 rfl (by omega) (Nat.le_refl _) (Nat.le_refl _) rfl (Nat.le_of_ble_eq_true rfl) (ab_kPb fun z2 => ?_)
  refine ab_if_eq (tgt := 12) (pc2 := 7) dX6_bytesRefusal_4 (by decide) rfl hf (fun c3 hf => ?_) (fun c3 hf => ?_)
  · refine ab_aload_n (x := _) (pc2 := 13) dX6_bytesRefusal_12 rfl rfl ?_
    refine ab_getI (pc2 := 16) rfl ht0 fa_X6_15 (by decide) dX6_bytesRefusal_13 rfl ?_
    refine ab_if_eq (tgt := 24) (pc2 := 19) dX6_bytesRefusal_16 (by decide) rfl hf (fun c4 hf => ?_) (fun c4 hf => ?_)
    · refine ab_iconst (pc2 := 25) (v := 0) dX6_bytesRefusal_24 rfl ab_k_iconst_0 ?_
      cases Option.some.inj hf
      exact ab_retI dX6_bytesRefusal_25 (Or.inl rfl) (Nat.le_refl _) (Nat.le_refl _) ⟨rfl, rfl⟩
    · refine ab_bipush (pc2 := 21) (v := (-12)) dX6_bytesRefusal_19 rfl ab_k_bipush_m12 ?_
      refine ab_goto (tgt := 25) dX6_bytesRefusal_21 (by decide) ?_
      cases Option.some.inj hf
      exact ab_retI dX6_bytesRefusal_25 (Or.inl rfl) (Nat.le_refl _) (Nat.le_refl _) ⟨rfl, rfl⟩
  · refine ab_bipush (pc2 := 9) (v := (-11)) dX6_bytesRefusal_7 rfl ab_k_bipush_m11 ?_
    refine ab_goto (tgt := 25) dX6_bytesRefusal_9 (by decide) ?_
    cases Option.some.inj hf
    exact ab_retI dX6_bytesRefusal_25 (Or.inl rfl) (Nat.le_refl _) (Nat.le_refl _) ⟨rfl, rfl⟩
set_option maxHeartbeats 4000000 in
set_option maxRecDepth 100000 in
theorem m_X6_bytesRefusal {d : Nat} {t0 : Nat} {h : ab_HP} {r : Int32} (ht0 : (ab_shp t0).1 = 3) (hf : f_X6_bytesRefusal t0 h = some r) : ab_MET mX6_bytesRefusal (d + 1) 0 0 [va_rf (some t0)] h (ab_Pi r h) := ab_met (by decide +kernel) (by decide +kernel) (Nat.le_of_ble_eq_true rfl) rfl (x_X6_bytesRefusal ht0 hf)
set_option maxHeartbeats 4000000 in
set_option maxRecDepth 100000 in
theorem x_X9_deedAt {d : Nat} {t0 : Nat} {i1 : Int32} {h : ab_HP} {r : (Option Nat)} (ht0 : (ab_shp t0).1 = 1) (hf : f_X9_deedAt t0 i1 h = some r) : ab_T mX9_deedAt (d + 0) 0 0 0 0 0 [some (va_rf (some t0)), some (.int i1)] [] h (ab_Pr 4 r h) := by
  unfold f_X9_deedAt at hf
  refine ab_iload_n (pc2 := 1) dX9_deedAt_0 rfl rfl ?_
  refine ab_if_lt (tgt := 30) (pc2 := 4) dX9_deedAt_1 (by decide) rfl hf (fun c1 hf => ?_) (fun c1 hf => ?_)
  · refine ab_null (pc2 := 31) dX9_deedAt_30 rfl ?_
    cases Option.some.inj hf
    exact ab_retA dX9_deedAt_31 ⟨_, rfl⟩ (Nat.le_refl _) (Nat.le_refl _) ⟨rfl, rfl, (fun z hz => by cases hz)⟩
  · refine ab_iload_n (pc2 := 5) dX9_deedAt_4 rfl rfl ?_
    refine ab_aload_n (x := _) (pc2 := 6) dX9_deedAt_5 rfl rfl ?_
    refine ab_getI (pc2 := 9) rfl ht0 fa_X9_28 (by decide) dX9_deedAt_6 rfl ?_
    refine ab_icmp_ge (tgt := 30) (pc2 := 12) dX9_deedAt_9 (by decide) rfl hf (fun c2 hf => ?_) (fun c2 hf => ?_)
    · refine ab_null (pc2 := 31) dX9_deedAt_30 rfl ?_
      cases Option.some.inj hf
      exact ab_retA dX9_deedAt_31 ⟨_, rfl⟩ (Nat.le_refl _) (Nat.le_refl _) ⟨rfl, rfl, (fun z hz => by cases hz)⟩
    · refine ab_iload_n (pc2 := 13) dX9_deedAt_12 rfl rfl ?_
      refine ab_aload_n (x := _) (pc2 := 14) dX9_deedAt_13 rfl rfl ?_
      refine ab_getR (pc2 := 17) rfl ht0 fa_X9_11 dX9_deedAt_14 rfl (fun T3 => ?_)
      obtain ⟨q4, hq4, hf⟩ := ab_bind hf
      refine ab_alen (pc2 := 18) hq4 (Or.inr (Or.inl (T3 q4 hq4))) dX9_deedAt_17 rfl ?_
      refine ab_icmp_ge (tgt := 30) (pc2 := 21) dX9_deedAt_18 (by decide) rfl hf (fun c5 hf => ?_) (fun c5 hf => ?_)
      · refine ab_null (pc2 := 31) dX9_deedAt_30 rfl ?_
        cases Option.some.inj hf
        exact ab_retA dX9_deedAt_31 ⟨_, rfl⟩ (Nat.le_refl _) (Nat.le_refl _) ⟨rfl, rfl, (fun z hz => by cases hz)⟩
      · refine ab_aload_n (x := _) (pc2 := 22) dX9_deedAt_21 rfl rfl ?_
        refine ab_getR (pc2 := 25) rfl ht0 fa_X9_11 dX9_deedAt_22 rfl (fun T6 => ?_)
        refine ab_iload_n (pc2 := 26) dX9_deedAt_25 rfl rfl ?_
        obtain ⟨q7, hq7, hf⟩ := ab_bind hf
        obtain ⟨b8, hf⟩ := ab_guard hf
        refine ab_aald (pc2 := 27) hq7 (T6 q7 hq7) (Or.inl rfl) (ab_in_vp b8) dX9_deedAt_26 rfl (fun T9 => ?_)
        refine ab_goto (tgt := 31) dX9_deedAt_27 (by decide) ?_
        cases Option.some.inj hf
        exact ab_retA dX9_deedAt_31 ⟨_, rfl⟩ (Nat.le_refl _) (Nat.le_refl _) ⟨rfl, rfl, T9⟩
set_option maxHeartbeats 4000000 in
set_option maxRecDepth 100000 in
theorem m_X9_deedAt {d : Nat} {t0 : Nat} {i1 : Int32} {h : ab_HP} {r : (Option Nat)} (ht0 : (ab_shp t0).1 = 1) (hf : f_X9_deedAt t0 i1 h = some r) : ab_MET mX9_deedAt (d + 0) 0 0 [va_rf (some t0), .int i1] h (ab_Pr 4 r h) := ab_met (by decide +kernel) (by decide +kernel) (Nat.le_of_ble_eq_true rfl) rfl (x_X9_deedAt ht0 hf)
set_option maxHeartbeats 4000000 in
set_option maxRecDepth 100000 in
theorem x_X9_become_l2 {d : Nat} {t0 : Nat} {r : ab_HP} (ht0 : (ab_shp t0).1 = 1) : ∀ (n : Nat) (i1 : Option Nat) (i2 : Int32) (h : ab_HP), (∀ z, i1 = some z → (ab_shp z).1 = 1) → f_X9_become_l2 t0 n i1 i2 h = some r → ab_T mX9_become (d + 1) 0 0 0 0 2 [some (va_rf (some t0)), some (va_rf i1), some (.int i2)] [] h (ab_Pv r) := by
  intro n
  induction n with
  | zero =>
    intro i1 i2 h T_i1 hf
    rw [f_X9_become_l2] at hf
    cases hf
  | succ n ih =>
    intro i1 i2 h T_i1 hf
    rw [f_X9_become_l2] at hf
    refine ab_iload_n (pc2 := 3) dX9_become_2 rfl rfl ?_
    refine ab_aload_n (x := _) (pc2 := 4) dX9_become_3 rfl rfl ?_
    refine ab_getR (pc2 := 7) rfl ht0 fa_X9_11 dX9_become_4 rfl (fun T1 => ?_)
    obtain ⟨q2, hq2, hf⟩ := ab_bind hf
    refine ab_alen (pc2 := 8) hq2 (Or.inr (Or.inl (T1 q2 hq2))) dX9_become_7 rfl ?_
    refine ab_icmp_ge (tgt := 28) (pc2 := 11) dX9_become_8 (by decide) rfl hf (fun c3 hf => ?_) (fun c3 hf => ?_)
    · refine ab_aload_n (x := _) (pc2 := 29) dX9_become_28 rfl rfl ?_
      refine ab_aload_n (x := _) (pc2 := 30) dX9_become_29 rfl rfl ?_
      obtain ⟨q4, hq4, hf⟩ := ab_bind hf
      refine ab_getI (pc2 := 33) hq4 (T_i1 q4 hq4) fa_X9_28 (by decide) dX9_become_30 rfl ?_
      obtain ⟨h5, eh5, hf⟩ := ab_let_x hf
      refine ab_putI (pc2 := 36) rfl ht0 fa_X9_28 (Or.inl rfl) (fun z => by cases z) dX9_become_33 rfl ?_
      refine ab_topH eh5 ?_
      refine ab_aload_n (x := _) (pc2 := 37) dX9_become_36 rfl rfl ?_
      refine ab_aload_n (x := _) (pc2 := 38) dX9_become_37 rfl rfl ?_
      refine ab_getI (pc2 := 41) hq4 (T_i1 q4 hq4) fa_X9_31 (by decide) dX9_become_38 rfl ?_
      obtain ⟨h6, eh6, hf⟩ := ab_let_x hf
      refine ab_putI (pc2 := 44) rfl ht0 fa_X9_31 (Or.inl rfl) (fun z => by cases z) dX9_become_41 rfl ?_
      refine ab_topH eh6 ?_
      refine ab_aload_n (x := _) (pc2 := 45) dX9_become_44 rfl rfl ?_
      refine ab_aload_n (x := _) (pc2 := 46) dX9_become_45 rfl rfl ?_
      refine ab_getI (pc2 := 49) hq4 (T_i1 q4 hq4) fa_X9_17 (by decide) dX9_become_46 rfl ?_
      obtain ⟨h7, eh7, hf⟩ := ab_let_x hf
      refine ab_putI (pc2 := 52) rfl ht0 fa_X9_17 (Or.inl rfl) (fun z => by cases z) dX9_become_49 rfl ?_
      refine ab_topH eh7 ?_
      refine ab_aload_n (x := _) (pc2 := 53) dX9_become_52 rfl rfl ?_
      refine ab_aload_n (x := _) (pc2 := 54) dX9_become_53 rfl rfl ?_
      refine ab_getI (pc2 := 57) hq4 (T_i1 q4 hq4) fa_X9_34 (by decide) dX9_become_54 rfl ?_
      obtain ⟨h8, eh8, hf⟩ := ab_let_x hf
      refine ab_putI (pc2 := 60) rfl ht0 fa_X9_34 (Or.inl rfl) (fun z => by cases z) dX9_become_57 rfl ?_
      refine ab_topH eh8 ?_
      refine ab_aload_n (x := _) (pc2 := 61) dX9_become_60 rfl rfl ?_
      refine ab_aload_n (x := _) (pc2 := 62) dX9_become_61 rfl rfl ?_
      refine ab_getI (pc2 := 65) hq4 (T_i1 q4 hq4) fa_X9_21 (by decide) dX9_become_62 rfl ?_
      obtain ⟨h9, eh9, hf⟩ := ab_let_x hf
      refine ab_putI (pc2 := 68) rfl ht0 fa_X9_21 (Or.inl rfl) (fun z => by cases z) dX9_become_65 rfl ?_
      refine ab_topH eh9 ?_
      refine ab_aload_n (x := _) (pc2 := 69) dX9_become_68 rfl rfl ?_
      refine ab_aload_n (x := _) (pc2 := 70) dX9_become_69 rfl rfl ?_
      refine ab_getI (pc2 := 73) hq4 (T_i1 q4 hq4) fa_X9_37 (by decide) dX9_become_70 rfl ?_
      obtain ⟨h10, eh10, hf⟩ := ab_let_x hf
      refine ab_putI (pc2 := 76) rfl ht0 fa_X9_37 (Or.inl rfl) (fun z => by cases z) dX9_become_73 rfl ?_
      refine ab_topH eh10 ?_
      refine ab_aload_n (x := _) (pc2 := 77) dX9_become_76 rfl rfl ?_
      refine ab_aload_n (x := _) (pc2 := 78) dX9_become_77 rfl rfl ?_
      refine ab_getI (pc2 := 81) hq4 (T_i1 q4 hq4) fa_X9_40 (by decide) dX9_become_78 rfl ?_
      obtain ⟨h11, eh11, hf⟩ := ab_let_x hf
      refine ab_putI (pc2 := 84) rfl ht0 fa_X9_40 (Or.inl rfl) (fun z => by cases z) dX9_become_81 rfl ?_
      refine ab_topH eh11 ?_
      cases Option.some.inj hf
      exact ab_retV dX9_become_84 rfl (Nat.le_refl _) (Nat.le_refl _) ⟨rfl, rfl⟩
    · refine ab_aload_n (x := _) (pc2 := 12) dX9_become_11 rfl rfl ?_
      refine ab_getR (pc2 := 15) rfl ht0 fa_X9_11 dX9_become_12 rfl (fun T12 => ?_)
      refine ab_iload_n (pc2 := 16) dX9_become_15 rfl rfl ?_
      refine ab_aload_n (x := _) (pc2 := 17) dX9_become_16 rfl rfl ?_
      refine ab_iload_n (pc2 := 18) dX9_become_17 rfl rfl ?_
      obtain ⟨q13, hq13, hf⟩ := ab_bind hf
      obtain ⟨w14, ew14, hf⟩ := ab_bind hf
      refine ab_callV (pc2 := 21) (st := [_, _]) hq13 (T_i1 q13 hq13) (by decide) (m_X9_deedAt (d := (d + 0)) (T_i1 q13 hq13) ew14) mf_X9_deedAt tw_19 tw_18 ts_X9_deedAt (Or.inl (by decide +kernel)) dX9_become_18 rfl (by omega) (Nat.le_refl _) (Nat.le_refl _) rfl (Nat.le_of_ble_eq_true rfl) (ab_kPr fun T15 => ?_)
      obtain ⟨q16, hq16, hf⟩ := ab_bind hf
      obtain ⟨b17, hf⟩ := ab_guard hf
      obtain ⟨h18, eh18, hf⟩ := ab_let_x hf
      refine ab_aast (pc2 := 22) hq16 (T12 q16 hq16) (Or.inl rfl) T15 (ab_in_vp b17) dX9_become_21 rfl ?_
      refine ab_topH eh18 ?_
      refine ab_iinc (pc2 := 25) (v := _ + 1) (lo2 := [some (va_rf _), some (va_rf _), some (.int _)]) dX9_become_22 rfl rfl rfl (by decide) (ab_st1_rf (j := 1) rfl rfl) ?_
      refine ab_goto (tgt := 2) dX9_become_25 (by decide) ?_
      exact ab_weak (ih _ _ _ T_i1 hf) (ab_leS (ab_leS (ab_leS ab_le0)))
set_option maxHeartbeats 4000000 in
set_option maxRecDepth 100000 in
theorem x_X9_become {d : Nat} {t0 : Nat} {i1 : Option Nat} {h : ab_HP} {r : ab_HP} (ht0 : (ab_shp t0).1 = 1) (T_i1 : ∀ z, i1 = some z → (ab_shp z).1 = 1) (hf : f_X9_become t0 i1 h = some r) : ab_T mX9_become (d + 1) 0 0 0 0 0 [some (va_rf (some t0)), some (va_rf i1), none] [] h (ab_Pv r) := by
  unfold f_X9_become at hf
  refine ab_iconst (pc2 := 1) (v := 0) dX9_become_0 rfl ab_k_iconst_0 ?_
  refine ab_istore_n (pc2 := 2) (lo2 := [some (va_rf _), some (va_rf _), some (.int _)]) dX9_become_1 rfl (by decide) (ab_st1_rf (j := 1) rfl rfl) ?_
  exact ab_weak (x_X9_become_l2 ht0 _ _ _ _ T_i1 hf) (ab_leS (ab_leS (ab_leS ab_le0)))
set_option maxHeartbeats 4000000 in
set_option maxRecDepth 100000 in
theorem m_X9_become {d : Nat} {t0 : Nat} {i1 : Option Nat} {h : ab_HP} {r : ab_HP} (ht0 : (ab_shp t0).1 = 1) (T_i1 : ∀ z, i1 = some z → (ab_shp z).1 = 1) (hf : f_X9_become t0 i1 h = some r) : ab_MET mX9_become (d + 1) 0 0 [va_rf (some t0), va_rf i1] h (ab_Pv r) := ab_met (by decide +kernel) (by decide +kernel) (by simp [ab_lo, ab_rf1, ab_cI, ab_cJ]) (by simp [ab_lo0, ab_lo, ab_rf1, ab_cI, ab_cJ, List.replicate]) (x_X9_become ht0 T_i1 hf)
set_option maxHeartbeats 4000000 in
set_option maxRecDepth 100000 in
theorem x_X6_hasPlace {d : Nat} {t0 : Nat} {i1 : Int32} {h : ab_HP} {r : Int32} (ht0 : (ab_shp t0).1 = 3) (hf : f_X6_hasPlace t0 i1 h = some r) : ab_T mX6_hasPlace (d + 0) 0 0 0 0 0 [some (va_rf (some t0)), some (.int i1)] [] h (ab_Pb r h) := by
  unfold f_X6_hasPlace at hf
  refine ab_iload_n (pc2 := 1) dX6_hasPlace_0 rfl rfl ?_
  refine ab_if_lt (tgt := 16) (pc2 := 4) dX6_hasPlace_1 (by decide) rfl hf (fun c1 hf => ?_) (fun c1 hf => ?_)
  · refine ab_iconst (pc2 := 17) (v := 0) dX6_hasPlace_16 rfl ab_k_iconst_0 ?_
    cases Option.some.inj hf
    exact ab_retI dX6_hasPlace_17 (Or.inr ⟨rfl, (Or.inl rfl)⟩) (Nat.le_refl _) (Nat.le_refl _) ⟨rfl, rfl, (Or.inl rfl)⟩
  · refine ab_iload_n (pc2 := 5) dX6_hasPlace_4 rfl rfl ?_
    refine ab_aload_n (x := _) (pc2 := 6) dX6_hasPlace_5 rfl rfl ?_
    refine ab_getI (pc2 := 9) rfl ht0 fa_X6_23 (by decide) dX6_hasPlace_6 rfl ?_
    refine ab_icmp_ge (tgt := 16) (pc2 := 12) dX6_hasPlace_9 (by decide) rfl hf (fun c2 hf => ?_) (fun c2 hf => ?_)
    · refine ab_iconst (pc2 := 17) (v := 0) dX6_hasPlace_16 rfl ab_k_iconst_0 ?_
      cases Option.some.inj hf
      exact ab_retI dX6_hasPlace_17 (Or.inr ⟨rfl, (Or.inl rfl)⟩) (Nat.le_refl _) (Nat.le_refl _) ⟨rfl, rfl, (Or.inl rfl)⟩
    · refine ab_iconst (pc2 := 13) (v := 1) dX6_hasPlace_12 rfl ab_k_iconst_1 ?_
      refine ab_goto (tgt := 17) dX6_hasPlace_13 (by decide) ?_
      cases Option.some.inj hf
      exact ab_retI dX6_hasPlace_17 (Or.inr ⟨rfl, (Or.inr rfl)⟩) (Nat.le_refl _) (Nat.le_refl _) ⟨rfl, rfl, (Or.inr rfl)⟩
set_option maxHeartbeats 4000000 in
set_option maxRecDepth 100000 in
theorem m_X6_hasPlace {d : Nat} {t0 : Nat} {i1 : Int32} {h : ab_HP} {r : Int32} (ht0 : (ab_shp t0).1 = 3) (hf : f_X6_hasPlace t0 i1 h = some r) : ab_MET mX6_hasPlace (d + 0) 0 0 [va_rf (some t0), .int i1] h (ab_Pb r h) := ab_met (by decide +kernel) (by decide +kernel) (Nat.le_of_ble_eq_true rfl) rfl (x_X6_hasPlace ht0 hf)
set_option maxHeartbeats 4000000 in
set_option maxRecDepth 100000 in
theorem x_X11_at {d : Nat} {i0 : Option Nat} {i1 : Int32} {h : ab_HP} {r : Int32} (T_i0 : ∀ z, i0 = some z → (ab_shp z).1 = 6) (hf : f_X11_at i0 i1 h = some r) : ab_T mX11_at (d + 0) 0 0 0 0 0 [some (va_rf i0), some (.int i1)] [] h (ab_Pi r h) := by
  unfold f_X11_at at hf
  refine ab_iload_n (pc2 := 1) dX11_at_0 rfl rfl ?_
  refine ab_if_lt (tgt := 16) (pc2 := 4) dX11_at_1 (by decide) rfl hf (fun c1 hf => ?_) (fun c1 hf => ?_)
  · refine ab_iconst (pc2 := 17) (v := 0) dX11_at_16 rfl ab_k_iconst_0 ?_
    cases Option.some.inj hf
    exact ab_retI dX11_at_17 (Or.inl rfl) (Nat.le_refl _) (Nat.le_refl _) ⟨rfl, rfl⟩
  · refine ab_iload_n (pc2 := 5) dX11_at_4 rfl rfl ?_
    refine ab_aload_n (x := _) (pc2 := 6) dX11_at_5 rfl rfl ?_
    obtain ⟨q2, hq2, hf⟩ := ab_bind hf
    refine ab_alen (pc2 := 7) hq2 (Or.inl (T_i0 q2 hq2)) dX11_at_6 rfl ?_
    refine ab_icmp_ge (tgt := 16) (pc2 := 10) dX11_at_7 (by decide) rfl hf (fun c3 hf => ?_) (fun c3 hf => ?_)
    · refine ab_iconst (pc2 := 17) (v := 0) dX11_at_16 rfl ab_k_iconst_0 ?_
      cases Option.some.inj hf
      exact ab_retI dX11_at_17 (Or.inl rfl) (Nat.le_refl _) (Nat.le_refl _) ⟨rfl, rfl⟩
    · refine ab_aload_n (x := _) (pc2 := 11) dX11_at_10 rfl rfl ?_
      refine ab_iload_n (pc2 := 12) dX11_at_11 rfl rfl ?_
      obtain ⟨b4, hf⟩ := ab_guard hf
      refine ab_iald (pc2 := 13) hq2 (T_i0 q2 hq2) (ab_in_vp b4) dX11_at_12 rfl ?_
      refine ab_goto (tgt := 17) dX11_at_13 (by decide) ?_
      cases Option.some.inj hf
      exact ab_retI dX11_at_17 (Or.inl rfl) (Nat.le_refl _) (Nat.le_refl _) ⟨rfl, rfl⟩
set_option maxHeartbeats 4000000 in
set_option maxRecDepth 100000 in
theorem m_X11_at {d : Nat} {i0 : Option Nat} {i1 : Int32} {h : ab_HP} {r : Int32} (T_i0 : ∀ z, i0 = some z → (ab_shp z).1 = 6) (hf : f_X11_at i0 i1 h = some r) : ab_MET mX11_at (d + 0) 0 0 [va_rf i0, .int i1] h (ab_Pi r h) := ab_met (by decide +kernel) (by decide +kernel) (by simp [ab_lo, ab_rf1, ab_cI, ab_cJ]) (by simp [ab_lo0, ab_lo, ab_rf1, ab_cI, ab_cJ, List.replicate]) (x_X11_at T_i0 hf)
set_option maxHeartbeats 4000000 in
set_option maxRecDepth 100000 in
theorem x_X6_read {d : Nat} {t0 : Nat} {i1 : Int32} {h : ab_HP} {r : Int32} (ht0 : (ab_shp t0).1 = 3) (hf : f_X6_read t0 i1 h = some r) : ab_T mX6_read (d + 1) 0 0 0 0 0 [some (va_rf (some t0)), some (.int i1)] [] h (ab_Pi r h) := by
  unfold f_X6_read at hf
  refine ab_aload_n (x := _) (pc2 := 1) dX6_read_0 rfl rfl ?_
  refine ab_iload_n (pc2 := 2) dX6_read_1 rfl rfl ?_
  obtain ⟨w1, ew1, hf⟩ := ab_bind hf
  refine ab_callV (pc2 := 5) (st := []) rfl ht0 (by decide) (m_X6_hasPlace (d := (d + 0)) ht0 ew1) mf_X6_hasPlace tw_21 tw_20 ts_X6_hasPlace (Or.inl (by decide +kernel)) dX6_read_2 rfl (by omega) (Nat.le_refl _) (Nat.le_refl _) rfl (Nat.le_of_ble_eq_true rfl) (ab_kPb fun z2 => ?_)
  refine ab_if_eq (tgt := 19) (pc2 := 8) dX6_read_5 (by decide) rfl hf (fun c3 hf => ?_) (fun c3 hf => ?_)
  · refine ab_ldc (pc2 := 21) (v := (-2147483648)) dX6_read_19 rfl tw_22 ?_
    cases Option.some.inj hf
    exact ab_retI dX6_read_21 (Or.inl rfl) (Nat.le_refl _) (Nat.le_refl _) ⟨rfl, rfl⟩
  · refine ab_aload_n (x := _) (pc2 := 9) dX6_read_8 rfl rfl ?_
    refine ab_getR (pc2 := 12) rfl ht0 fa_X6_11 dX6_read_9 rfl (fun T4 => ?_)
    refine ab_iload_n (pc2 := 13) dX6_read_12 rfl rfl ?_
    obtain ⟨w5, ew5, hf⟩ := ab_bind hf
    refine ab_callSN (pc2 := 16) (st := []) (m_X11_at (d := (d + 0)) T4 ew5) mf_X11_at tn_X6_34 tw_23 dX6_read_13 rfl (by omega) (Nat.le_refl _) (Nat.le_refl _) rfl (Nat.le_of_ble_eq_true rfl) (ab_kPi ?_)
    refine ab_goto (tgt := 21) dX6_read_16 (by decide) ?_
    cases Option.some.inj hf
    exact ab_retI dX6_read_21 (Or.inl rfl) (Nat.le_refl _) (Nat.le_refl _) ⟨rfl, rfl⟩
set_option maxHeartbeats 4000000 in
set_option maxRecDepth 100000 in
theorem m_X6_read {d : Nat} {t0 : Nat} {i1 : Int32} {h : ab_HP} {r : Int32} (ht0 : (ab_shp t0).1 = 3) (hf : f_X6_read t0 i1 h = some r) : ab_MET mX6_read (d + 1) 0 0 [va_rf (some t0), .int i1] h (ab_Pi r h) := ab_met (by decide +kernel) (by decide +kernel) (Nat.le_of_ble_eq_true rfl) rfl (x_X6_read ht0 hf)
set_option maxHeartbeats 4000000 in
set_option maxRecDepth 100000 in
theorem x_X9_isDigit {d : Nat} {i0 : Int32} {h : ab_HP} {r : Int32}  (hf : f_X9_isDigit i0 h = some r) : ab_T mX9_isDigit (d + 0) 0 0 0 0 0 [some (.int i0)] [] h (ab_Pb r h) := by
  unfold f_X9_isDigit at hf
  refine ab_iload_n (pc2 := 1) dX9_isDigit_0 rfl rfl ?_
  refine ab_bipush (pc2 := 3) (v := 48) dX9_isDigit_1 rfl ab_k_bipush_48 ?_
  refine ab_icmp_lt (tgt := 16) (pc2 := 6) dX9_isDigit_3 (by decide) rfl hf (fun c1 hf => ?_) (fun c1 hf => ?_)
  · refine ab_iconst (pc2 := 17) (v := 0) dX9_isDigit_16 rfl ab_k_iconst_0 ?_
    cases Option.some.inj hf
    exact ab_retI dX9_isDigit_17 (Or.inr ⟨rfl, (Or.inl rfl)⟩) (Nat.le_refl _) (Nat.le_refl _) ⟨rfl, rfl, (Or.inl rfl)⟩
  · refine ab_iload_n (pc2 := 7) dX9_isDigit_6 rfl rfl ?_
    refine ab_bipush (pc2 := 9) (v := 57) dX9_isDigit_7 rfl ab_k_bipush_57 ?_
    refine ab_icmp_gt (tgt := 16) (pc2 := 12) dX9_isDigit_9 (by decide) rfl hf (fun c2 hf => ?_) (fun c2 hf => ?_)
    · refine ab_iconst (pc2 := 17) (v := 0) dX9_isDigit_16 rfl ab_k_iconst_0 ?_
      cases Option.some.inj hf
      exact ab_retI dX9_isDigit_17 (Or.inr ⟨rfl, (Or.inl rfl)⟩) (Nat.le_refl _) (Nat.le_refl _) ⟨rfl, rfl, (Or.inl rfl)⟩
    · refine ab_iconst (pc2 := 13) (v := 1) dX9_isDigit_12 rfl ab_k_iconst_1 ?_
      refine ab_goto (tgt := 17) dX9_isDigit_13 (by decide) ?_
      cases Option.some.inj hf
      exact ab_retI dX9_isDigit_17 (Or.inr ⟨rfl, (Or.inr rfl)⟩) (Nat.le_refl _) (Nat.le_refl _) ⟨rfl, rfl, (Or.inr rfl)⟩
set_option maxHeartbeats 4000000 in
set_option maxRecDepth 100000 in
theorem m_X9_isDigit {d : Nat} {i0 : Int32} {h : ab_HP} {r : Int32}  (hf : f_X9_isDigit i0 h = some r) : ab_MET mX9_isDigit (d + 0) 0 0 [.int i0] h (ab_Pb r h) := ab_met (by decide +kernel) (by decide +kernel) (Nat.le_of_ble_eq_true rfl) rfl (x_X9_isDigit  hf)
set_option maxHeartbeats 4000000 in
set_option maxRecDepth 100000 in
theorem x_X9_wrongAt {d : Nat} {i0 : Int32} {h : ab_HP} {r : Int32}  (hf : f_X9_wrongAt i0 h = some r) : ab_T mX9_wrongAt (d + 0) 0 0 0 0 0 [some (.int i0)] [] h (ab_Pi r h) := by
  unfold f_X9_wrongAt at hf
  refine ab_iconst (pc2 := 1) (v := (-1)) dX9_wrongAt_0 rfl ab_k_iconst_m1 ?_
  refine ab_iload_n (pc2 := 2) dX9_wrongAt_1 rfl rfl ?_
  refine ab_isub (pc2 := 3) dX9_wrongAt_2 rfl ?_
  cases Option.some.inj hf
  exact ab_retI dX9_wrongAt_3 (Or.inl rfl) (Nat.le_refl _) (Nat.le_refl _) ⟨rfl, rfl⟩
set_option maxHeartbeats 4000000 in
set_option maxRecDepth 100000 in
theorem m_X9_wrongAt {d : Nat} {i0 : Int32} {h : ab_HP} {r : Int32}  (hf : f_X9_wrongAt i0 h = some r) : ab_MET mX9_wrongAt (d + 0) 0 0 [.int i0] h (ab_Pi r h) := ab_met (by decide +kernel) (by decide +kernel) (Nat.le_of_ble_eq_true rfl) rfl (x_X9_wrongAt  hf)
set_option maxHeartbeats 4000000 in
set_option maxRecDepth 100000 in
theorem x_X9_behindDigit {d : Nat} {i0 : Option Nat} {i1 : Int32} {h : ab_HP} {r : Int32} (T_i0 : ∀ z, i0 = some z → (ab_shp z).1 = 3) (hf : f_X9_behindDigit i0 i1 h = some r) : ab_T mX9_behindDigit (d + 2) 0 0 0 0 0 [some (va_rf i0), some (.int i1)] [] h (ab_Pi r h) := by
  unfold f_X9_behindDigit at hf
  refine ab_iload_n (pc2 := 1) dX9_behindDigit_0 rfl rfl ?_
  refine ab_if_ge (tgt := 6) (pc2 := 4) dX9_behindDigit_1 (by decide) rfl hf (fun c1 hf => ?_) (fun c1 hf => ?_)
  · refine ab_aload_n (x := _) (pc2 := 7) dX9_behindDigit_6 rfl rfl ?_
    refine ab_iload_n (pc2 := 8) dX9_behindDigit_7 rfl rfl ?_
    obtain ⟨q2, hq2, hf⟩ := ab_bind hf
    obtain ⟨w3, ew3, hf⟩ := ab_bind hf
    refine ab_callV (pc2 := 11) (st := []) hq2 (T_i0 q2 hq2) (by decide) (m_X6_read (d := (d + 0)) (T_i0 q2 hq2) ew3) mf_X6_read tw_25 tw_24 ts_X6_read (Or.inl (by decide +kernel)) dX9_behindDigit_8 rfl (by omega) (Nat.le_refl _) (Nat.le_refl _) rfl (Nat.le_of_ble_eq_true rfl) (ab_kPi ?_)
    obtain ⟨w4, ew4, hf⟩ := ab_bind hf
    refine ab_callS (pc2 := 14) (st := []) (m_X9_isDigit (d := (d + 1)) ew4) mf_X9_isDigit tw_26 tw_27 dX9_behindDigit_11 rfl (by omega) (Nat.le_refl _) (Nat.le_refl _) rfl (Nat.le_of_ble_eq_true rfl) (ab_kPb fun z5 => ?_)
    refine ab_if_eq (tgt := 23) (pc2 := 17) dX9_behindDigit_14 (by decide) rfl hf (fun c6 hf => ?_) (fun c6 hf => ?_)
    · refine ab_iload_n (pc2 := 24) dX9_behindDigit_23 rfl rfl ?_
      obtain ⟨w7, ew7, hf⟩ := ab_bind hf
      refine ab_callS (pc2 := 27) (st := []) (m_X9_wrongAt (d := (d + 1)) ew7) mf_X9_wrongAt tw_28 tw_29 dX9_behindDigit_24 rfl (by omega) (Nat.le_refl _) (Nat.le_refl _) rfl (Nat.le_of_ble_eq_true rfl) (ab_kPi ?_)
      cases Option.some.inj hf
      exact ab_retI dX9_behindDigit_27 (Or.inl rfl) (Nat.le_refl _) (Nat.le_refl _) ⟨rfl, rfl⟩
    · refine ab_iload_n (pc2 := 18) dX9_behindDigit_17 rfl rfl ?_
      refine ab_iconst (pc2 := 19) (v := 1) dX9_behindDigit_18 rfl ab_k_iconst_1 ?_
      refine ab_iadd (pc2 := 20) dX9_behindDigit_19 rfl ?_
      refine ab_goto (tgt := 27) dX9_behindDigit_20 (by decide) ?_
      cases Option.some.inj hf
      exact ab_retI dX9_behindDigit_27 (Or.inl rfl) (Nat.le_refl _) (Nat.le_refl _) ⟨rfl, rfl⟩
  · refine ab_iload_n (pc2 := 5) dX9_behindDigit_4 rfl rfl ?_
    cases Option.some.inj hf
    exact ab_retI dX9_behindDigit_5 (Or.inl rfl) (Nat.le_refl _) (Nat.le_refl _) ⟨rfl, rfl⟩
set_option maxHeartbeats 4000000 in
set_option maxRecDepth 100000 in
theorem m_X9_behindDigit {d : Nat} {i0 : Option Nat} {i1 : Int32} {h : ab_HP} {r : Int32} (T_i0 : ∀ z, i0 = some z → (ab_shp z).1 = 3) (hf : f_X9_behindDigit i0 i1 h = some r) : ab_MET mX9_behindDigit (d + 2) 0 0 [va_rf i0, .int i1] h (ab_Pi r h) := ab_met (by decide +kernel) (by decide +kernel) (by simp [ab_lo, ab_rf1, ab_cI, ab_cJ]) (by simp [ab_lo0, ab_lo, ab_rf1, ab_cI, ab_cJ, List.replicate]) (x_X9_behindDigit T_i0 hf)
set_option maxHeartbeats 4000000 in
set_option maxRecDepth 100000 in
theorem x_X9_isLetter {d : Nat} {i0 : Int32} {h : ab_HP} {r : Int32}  (hf : f_X9_isLetter i0 h = some r) : ab_T mX9_isLetter (d + 0) 0 0 0 0 0 [some (.int i0)] [] h (ab_Pb r h) := by
  unfold f_X9_isLetter at hf
  refine ab_iload_n (pc2 := 1) dX9_isLetter_0 rfl rfl ?_
  refine ab_bipush (pc2 := 3) (v := 97) dX9_isLetter_1 rfl ab_k_bipush_97 ?_
  refine ab_icmp_lt (tgt := 16) (pc2 := 6) dX9_isLetter_3 (by decide) rfl hf (fun c1 hf => ?_) (fun c1 hf => ?_)
  · refine ab_iconst (pc2 := 17) (v := 0) dX9_isLetter_16 rfl ab_k_iconst_0 ?_
    cases Option.some.inj hf
    exact ab_retI dX9_isLetter_17 (Or.inr ⟨rfl, (Or.inl rfl)⟩) (Nat.le_refl _) (Nat.le_refl _) ⟨rfl, rfl, (Or.inl rfl)⟩
  · refine ab_iload_n (pc2 := 7) dX9_isLetter_6 rfl rfl ?_
    refine ab_bipush (pc2 := 9) (v := 106) dX9_isLetter_7 rfl ab_k_bipush_106 ?_
    refine ab_icmp_gt (tgt := 16) (pc2 := 12) dX9_isLetter_9 (by decide) rfl hf (fun c2 hf => ?_) (fun c2 hf => ?_)
    · refine ab_iconst (pc2 := 17) (v := 0) dX9_isLetter_16 rfl ab_k_iconst_0 ?_
      cases Option.some.inj hf
      exact ab_retI dX9_isLetter_17 (Or.inr ⟨rfl, (Or.inl rfl)⟩) (Nat.le_refl _) (Nat.le_refl _) ⟨rfl, rfl, (Or.inl rfl)⟩
    · refine ab_iconst (pc2 := 13) (v := 1) dX9_isLetter_12 rfl ab_k_iconst_1 ?_
      refine ab_goto (tgt := 17) dX9_isLetter_13 (by decide) ?_
      cases Option.some.inj hf
      exact ab_retI dX9_isLetter_17 (Or.inr ⟨rfl, (Or.inr rfl)⟩) (Nat.le_refl _) (Nat.le_refl _) ⟨rfl, rfl, (Or.inr rfl)⟩
set_option maxHeartbeats 4000000 in
set_option maxRecDepth 100000 in
theorem m_X9_isLetter {d : Nat} {i0 : Int32} {h : ab_HP} {r : Int32}  (hf : f_X9_isLetter i0 h = some r) : ab_MET mX9_isLetter (d + 0) 0 0 [.int i0] h (ab_Pb r h) := ab_met (by decide +kernel) (by decide +kernel) (Nat.le_of_ble_eq_true rfl) rfl (x_X9_isLetter  hf)
set_option maxHeartbeats 4000000 in
set_option maxRecDepth 100000 in
theorem x_X9_behindNeeds_l7 {d : Nat}  {r : Int32}  : ∀ (n : Nat) (i0 : Option Nat) (i2 : Int32) (i3 : Int32) (i4 : Int32) (h : ab_HP), (∀ z, i0 = some z → (ab_shp z).1 = 3) → f_X9_behindNeeds_l7  n i0 i2 i3 i4 h = some r → ab_T mX9_behindNeeds (d + 2) 0 0 0 0 7 [some (va_rf i0), none, some (.int i2), some (.int i3), some (.int i4)] [] h (ab_Pi r h) := by
  intro n
  induction n with
  | zero =>
    intro i0 i2 i3 i4 h T_i0 hf
    rw [f_X9_behindNeeds_l7] at hf
    cases hf
  | succ n ih =>
    intro i0 i2 i3 i4 h T_i0 hf
    rw [f_X9_behindNeeds_l7] at hf
    refine ab_iload (pc2 := 9) dX9_behindNeeds_7 rfl rfl ?_
    refine ab_bipush (pc2 := 11) (v := 10) dX9_behindNeeds_9 rfl ab_k_bipush_10 ?_
    refine ab_icmp_ge (tgt := 49) (pc2 := 14) dX9_behindNeeds_11 (by decide) rfl hf (fun c1 hf => ?_) (fun c1 hf => ?_)
    · refine ab_iload_n (pc2 := 50) dX9_behindNeeds_49 rfl rfl ?_
      cases Option.some.inj hf
      exact ab_retI dX9_behindNeeds_50 (Or.inl rfl) (Nat.le_refl _) (Nat.le_refl _) ⟨rfl, rfl⟩
    · refine ab_aload_n (x := _) (pc2 := 15) dX9_behindNeeds_14 rfl rfl ?_
      refine ab_iload_n (pc2 := 16) dX9_behindNeeds_15 rfl rfl ?_
      obtain ⟨q2, hq2, hf⟩ := ab_bind hf
      obtain ⟨w3, ew3, hf⟩ := ab_bind hf
      refine ab_callV (pc2 := 19) (st := []) hq2 (T_i0 q2 hq2) (by decide) (m_X6_read (d := (d + 0)) (T_i0 q2 hq2) ew3) mf_X6_read tw_25 tw_24 ts_X6_read (Or.inl (by decide +kernel)) dX9_behindNeeds_16 rfl (by omega) (Nat.le_refl _) (Nat.le_refl _) rfl (Nat.le_of_ble_eq_true rfl) (ab_kPi ?_)
      obtain ⟨w4, ew4, hf⟩ := ab_bind hf
      refine ab_callS (pc2 := 22) (st := []) (m_X9_isLetter (d := (d + 1)) ew4) mf_X9_isLetter tw_30 tw_31 dX9_behindNeeds_19 rfl (by omega) (Nat.le_refl _) (Nat.le_refl _) rfl (Nat.le_of_ble_eq_true rfl) (ab_kPb fun z5 => ?_)
      refine ab_if_eq (tgt := 49) (pc2 := 25) dX9_behindNeeds_22 (by decide) rfl hf (fun c6 hf => ?_) (fun c6 hf => ?_)
      · refine ab_iload_n (pc2 := 50) dX9_behindNeeds_49 rfl rfl ?_
        cases Option.some.inj hf
        exact ab_retI dX9_behindNeeds_50 (Or.inl rfl) (Nat.le_refl _) (Nat.le_refl _) ⟨rfl, rfl⟩
      · refine ab_aload_n (x := _) (pc2 := 26) dX9_behindNeeds_25 rfl rfl ?_
        refine ab_iload_n (pc2 := 27) dX9_behindNeeds_26 rfl rfl ?_
        obtain ⟨w7, ew7, hf⟩ := ab_bind hf
        refine ab_callV (pc2 := 30) (st := []) hq2 (T_i0 q2 hq2) (by decide) (m_X6_read (d := (d + 0)) (T_i0 q2 hq2) ew7) mf_X6_read tw_25 tw_24 ts_X6_read (Or.inl (by decide +kernel)) dX9_behindNeeds_27 rfl (by omega) (Nat.le_refl _) (Nat.le_refl _) rfl (Nat.le_of_ble_eq_true rfl) (ab_kPi ?_)
        refine ab_iload_n (pc2 := 31) dX9_behindNeeds_30 rfl rfl ?_
        refine ab_icmp_le (tgt := 49) (pc2 := 34) dX9_behindNeeds_31 (by decide) rfl hf (fun c8 hf => ?_) (fun c8 hf => ?_)
        · refine ab_iload_n (pc2 := 50) dX9_behindNeeds_49 rfl rfl ?_
          cases Option.some.inj hf
          exact ab_retI dX9_behindNeeds_50 (Or.inl rfl) (Nat.le_refl _) (Nat.le_refl _) ⟨rfl, rfl⟩
        · refine ab_aload_n (x := _) (pc2 := 35) dX9_behindNeeds_34 rfl rfl ?_
          refine ab_iload_n (pc2 := 36) dX9_behindNeeds_35 rfl rfl ?_
          obtain ⟨w9, ew9, hf⟩ := ab_bind hf
          refine ab_callV (pc2 := 39) (st := []) hq2 (T_i0 q2 hq2) (by decide) (m_X6_read (d := (d + 0)) (T_i0 q2 hq2) ew9) mf_X6_read tw_25 tw_24 ts_X6_read (Or.inl (by decide +kernel)) dX9_behindNeeds_36 rfl (by omega) (Nat.le_refl _) (Nat.le_refl _) rfl (Nat.le_of_ble_eq_true rfl) (ab_kPi ?_)
          refine ab_istore_n (pc2 := 40) (lo2 := [some (va_rf _), none, some (.int _), some (.int _), some (.int _)]) dX9_behindNeeds_39 rfl (by decide) rfl ?_
          refine ab_iinc (pc2 := 43) (v := _ + 1) (lo2 := [some (va_rf _), none, some (.int _), some (.int _), some (.int _)]) dX9_behindNeeds_40 rfl rfl rfl (by decide) rfl ?_
          refine ab_iinc (pc2 := 46) (v := _ + 1) (lo2 := [some (va_rf _), none, some (.int _), some (.int _), some (.int _)]) dX9_behindNeeds_43 rfl rfl rfl (by decide) rfl ?_
          refine ab_goto (tgt := 7) dX9_behindNeeds_46 (by decide) ?_
          exact ab_weak (ih _ _ _ _ _ T_i0 hf) (ab_leS (ab_leN (ab_leS (ab_leS (ab_leS ab_le0)))))
set_option maxHeartbeats 4000000 in
set_option maxRecDepth 100000 in
theorem x_X9_behindNeeds {d : Nat} {i0 : Option Nat} {i1 : Int32} {h : ab_HP} {r : Int32} (T_i0 : ∀ z, i0 = some z → (ab_shp z).1 = 3) (hf : f_X9_behindNeeds i0 i1 h = some r) : ab_T mX9_behindNeeds (d + 2) 0 0 0 0 0 [some (va_rf i0), some (.int i1), none, none, none] [] h (ab_Pi r h) := by
  unfold f_X9_behindNeeds at hf
  refine ab_iload_n (pc2 := 1) dX9_behindNeeds_0 rfl rfl ?_
  refine ab_istore_n (pc2 := 2) (lo2 := [some (va_rf _), some (.int _), some (.int _), none, none]) dX9_behindNeeds_1 rfl (by decide) rfl ?_
  refine ab_iconst (pc2 := 3) (v := 0) dX9_behindNeeds_2 rfl ab_k_iconst_0 ?_
  refine ab_istore_n (pc2 := 4) (lo2 := [some (va_rf _), some (.int _), some (.int _), some (.int _), none]) dX9_behindNeeds_3 rfl (by decide) rfl ?_
  refine ab_iconst (pc2 := 5) (v := 0) dX9_behindNeeds_4 rfl ab_k_iconst_0 ?_
  refine ab_istore (pc2 := 7) (lo2 := [some (va_rf _), some (.int _), some (.int _), some (.int _), some (.int _)]) dX9_behindNeeds_5 rfl (by decide) rfl ?_
  exact ab_weak (x_X9_behindNeeds_l7  _ _ _ _ _ _ T_i0 hf) (ab_leS (ab_leN (ab_leS (ab_leS (ab_leS ab_le0)))))
set_option maxHeartbeats 4000000 in
set_option maxRecDepth 100000 in
theorem m_X9_behindNeeds {d : Nat} {i0 : Option Nat} {i1 : Int32} {h : ab_HP} {r : Int32} (T_i0 : ∀ z, i0 = some z → (ab_shp z).1 = 3) (hf : f_X9_behindNeeds i0 i1 h = some r) : ab_MET mX9_behindNeeds (d + 2) 0 0 [va_rf i0, .int i1] h (ab_Pi r h) := ab_met (by decide +kernel) (by decide +kernel) (by simp [ab_lo, ab_rf1, ab_cI, ab_cJ]) (by simp [ab_lo0, ab_lo, ab_rf1, ab_cI, ab_cJ, List.replicate]) (x_X9_behindNeeds T_i0 hf)
set_option maxHeartbeats 4000000 in
set_option maxRecDepth 100000 in
theorem x_X9_behindSign {d : Nat} {i0 : Option Nat} {i1 : Int32} {i2 : Int32} {h : ab_HP} {r : Int32} (T_i0 : ∀ z, i0 = some z → (ab_shp z).1 = 3) (hf : f_X9_behindSign i0 i1 i2 h = some r) : ab_T mX9_behindSign (d + 2) 0 0 0 0 0 [some (va_rf i0), some (.int i1), some (.int i2)] [] h (ab_Pi r h) := by
  unfold f_X9_behindSign at hf
  refine ab_iload_n (pc2 := 1) dX9_behindSign_0 rfl rfl ?_
  refine ab_if_ge (tgt := 6) (pc2 := 4) dX9_behindSign_1 (by decide) rfl hf (fun c1 hf => ?_) (fun c1 hf => ?_)
  · refine ab_aload_n (x := _) (pc2 := 7) dX9_behindSign_6 rfl rfl ?_
    refine ab_iload_n (pc2 := 8) dX9_behindSign_7 rfl rfl ?_
    obtain ⟨q2, hq2, hf⟩ := ab_bind hf
    obtain ⟨w3, ew3, hf⟩ := ab_bind hf
    refine ab_callV (pc2 := 11) (st := []) hq2 (T_i0 q2 hq2) (by decide) (m_X6_read (d := (d + 0)) (T_i0 q2 hq2) ew3) mf_X6_read tw_25 tw_24 ts_X6_read (Or.inl (by decide +kernel)) dX9_behindSign_8 rfl (by omega) (Nat.le_refl _) (Nat.le_refl _) rfl (Nat.le_of_ble_eq_true rfl) (ab_kPi ?_)
    refine ab_iload_n (pc2 := 12) dX9_behindSign_11 rfl rfl ?_
    refine ab_icmp_ne (tgt := 21) (pc2 := 15) dX9_behindSign_12 (by decide) rfl hf (fun c4 hf => ?_) (fun c4 hf => ?_)
    · refine ab_iload_n (pc2 := 22) dX9_behindSign_21 rfl rfl ?_
      obtain ⟨w5, ew5, hf⟩ := ab_bind hf
      refine ab_callS (pc2 := 25) (st := []) (m_X9_wrongAt (d := (d + 1)) ew5) mf_X9_wrongAt tw_28 tw_29 dX9_behindSign_22 rfl (by omega) (Nat.le_refl _) (Nat.le_refl _) rfl (Nat.le_of_ble_eq_true rfl) (ab_kPi ?_)
      cases Option.some.inj hf
      exact ab_retI dX9_behindSign_25 (Or.inl rfl) (Nat.le_refl _) (Nat.le_refl _) ⟨rfl, rfl⟩
    · refine ab_iload_n (pc2 := 16) dX9_behindSign_15 rfl rfl ?_
      refine ab_iconst (pc2 := 17) (v := 1) dX9_behindSign_16 rfl ab_k_iconst_1 ?_
      refine ab_iadd (pc2 := 18) dX9_behindSign_17 rfl ?_
      refine ab_goto (tgt := 25) dX9_behindSign_18 (by decide) ?_
      cases Option.some.inj hf
      exact ab_retI dX9_behindSign_25 (Or.inl rfl) (Nat.le_refl _) (Nat.le_refl _) ⟨rfl, rfl⟩
  · refine ab_iload_n (pc2 := 5) dX9_behindSign_4 rfl rfl ?_
    cases Option.some.inj hf
    exact ab_retI dX9_behindSign_5 (Or.inl rfl) (Nat.le_refl _) (Nat.le_refl _) ⟨rfl, rfl⟩
set_option maxHeartbeats 4000000 in
set_option maxRecDepth 100000 in
theorem m_X9_behindSign {d : Nat} {i0 : Option Nat} {i1 : Int32} {i2 : Int32} {h : ab_HP} {r : Int32} (T_i0 : ∀ z, i0 = some z → (ab_shp z).1 = 3) (hf : f_X9_behindSign i0 i1 i2 h = some r) : ab_MET mX9_behindSign (d + 2) 0 0 [va_rf i0, .int i1, .int i2] h (ab_Pi r h) := ab_met (by decide +kernel) (by decide +kernel) (by simp [ab_lo, ab_rf1, ab_cI, ab_cJ]) (by simp [ab_lo0, ab_lo, ab_rf1, ab_cI, ab_cJ, List.replicate]) (x_X9_behindSign T_i0 hf)
set_option maxHeartbeats 4000000 in
set_option maxRecDepth 100000 in
theorem x_X9_behindLetter {d : Nat} {i0 : Option Nat} {i1 : Int32} {h : ab_HP} {r : Int32} (T_i0 : ∀ z, i0 = some z → (ab_shp z).1 = 3) (hf : f_X9_behindLetter i0 i1 h = some r) : ab_T mX9_behindLetter (d + 2) 0 0 0 0 0 [some (va_rf i0), some (.int i1)] [] h (ab_Pi r h) := by
  unfold f_X9_behindLetter at hf
  refine ab_iload_n (pc2 := 1) dX9_behindLetter_0 rfl rfl ?_
  refine ab_if_ge (tgt := 6) (pc2 := 4) dX9_behindLetter_1 (by decide) rfl hf (fun c1 hf => ?_) (fun c1 hf => ?_)
  · refine ab_aload_n (x := _) (pc2 := 7) dX9_behindLetter_6 rfl rfl ?_
    refine ab_iload_n (pc2 := 8) dX9_behindLetter_7 rfl rfl ?_
    obtain ⟨q2, hq2, hf⟩ := ab_bind hf
    obtain ⟨w3, ew3, hf⟩ := ab_bind hf
    refine ab_callV (pc2 := 11) (st := []) hq2 (T_i0 q2 hq2) (by decide) (m_X6_read (d := (d + 0)) (T_i0 q2 hq2) ew3) mf_X6_read tw_25 tw_24 ts_X6_read (Or.inl (by decide +kernel)) dX9_behindLetter_8 rfl (by omega) (Nat.le_refl _) (Nat.le_refl _) rfl (Nat.le_of_ble_eq_true rfl) (ab_kPi ?_)
    obtain ⟨w4, ew4, hf⟩ := ab_bind hf
    refine ab_callS (pc2 := 14) (st := []) (m_X9_isLetter (d := (d + 1)) ew4) mf_X9_isLetter tw_30 tw_31 dX9_behindLetter_11 rfl (by omega) (Nat.le_refl _) (Nat.le_refl _) rfl (Nat.le_of_ble_eq_true rfl) (ab_kPb fun z5 => ?_)
    refine ab_if_eq (tgt := 23) (pc2 := 17) dX9_behindLetter_14 (by decide) rfl hf (fun c6 hf => ?_) (fun c6 hf => ?_)
    · refine ab_iload_n (pc2 := 24) dX9_behindLetter_23 rfl rfl ?_
      obtain ⟨w7, ew7, hf⟩ := ab_bind hf
      refine ab_callS (pc2 := 27) (st := []) (m_X9_wrongAt (d := (d + 1)) ew7) mf_X9_wrongAt tw_28 tw_29 dX9_behindLetter_24 rfl (by omega) (Nat.le_refl _) (Nat.le_refl _) rfl (Nat.le_of_ble_eq_true rfl) (ab_kPi ?_)
      cases Option.some.inj hf
      exact ab_retI dX9_behindLetter_27 (Or.inl rfl) (Nat.le_refl _) (Nat.le_refl _) ⟨rfl, rfl⟩
    · refine ab_iload_n (pc2 := 18) dX9_behindLetter_17 rfl rfl ?_
      refine ab_iconst (pc2 := 19) (v := 1) dX9_behindLetter_18 rfl ab_k_iconst_1 ?_
      refine ab_iadd (pc2 := 20) dX9_behindLetter_19 rfl ?_
      refine ab_goto (tgt := 27) dX9_behindLetter_20 (by decide) ?_
      cases Option.some.inj hf
      exact ab_retI dX9_behindLetter_27 (Or.inl rfl) (Nat.le_refl _) (Nat.le_refl _) ⟨rfl, rfl⟩
  · refine ab_iload_n (pc2 := 5) dX9_behindLetter_4 rfl rfl ?_
    cases Option.some.inj hf
    exact ab_retI dX9_behindLetter_5 (Or.inl rfl) (Nat.le_refl _) (Nat.le_refl _) ⟨rfl, rfl⟩
set_option maxHeartbeats 4000000 in
set_option maxRecDepth 100000 in
theorem m_X9_behindLetter {d : Nat} {i0 : Option Nat} {i1 : Int32} {h : ab_HP} {r : Int32} (T_i0 : ∀ z, i0 = some z → (ab_shp z).1 = 3) (hf : f_X9_behindLetter i0 i1 h = some r) : ab_MET mX9_behindLetter (d + 2) 0 0 [va_rf i0, .int i1] h (ab_Pi r h) := ab_met (by decide +kernel) (by decide +kernel) (by simp [ab_lo, ab_rf1, ab_cI, ab_cJ]) (by simp [ab_lo0, ab_lo, ab_rf1, ab_cI, ab_cJ, List.replicate]) (x_X9_behindLetter T_i0 hf)
set_option maxHeartbeats 4000000 in
set_option maxRecDepth 100000 in
theorem x_X9_behindNumber_l25 {d : Nat}  {r : Int32}  : ∀ (n : Nat) (i0 : Option Nat) (i2 : Int32) (i3 : Int32) (i4 : Int32) (h : ab_HP), (∀ z, i0 = some z → (ab_shp z).1 = 3) → f_X9_behindNumber_l25  n i0 i2 i3 i4 h = some r → ab_T mX9_behindNumber (d + 3) 0 0 0 0 25 [some (va_rf i0), none, some (.int i2), some (.int i3), some (.int i4)] [] h (ab_Pi r h) := by
  intro n
  induction n with
  | zero =>
    intro i0 i2 i3 i4 h T_i0 hf
    rw [f_X9_behindNumber_l25] at hf
    cases hf
  | succ n ih =>
    intro i0 i2 i3 i4 h T_i0 hf
    rw [f_X9_behindNumber_l25] at hf
    refine ab_iload (pc2 := 27) dX9_behindNumber_25 rfl rfl ?_
    refine ab_iload_n (pc2 := 28) dX9_behindNumber_27 rfl rfl ?_
    refine ab_icmp_ge (tgt := 51) (pc2 := 31) dX9_behindNumber_28 (by decide) rfl hf (fun c6 hf => ?_) (fun c6 hf => ?_)
    · refine ab_iload_n (pc2 := 52) dX9_behindNumber_51 rfl rfl ?_
      cases Option.some.inj hf
      exact ab_retI dX9_behindNumber_52 (Or.inl rfl) (Nat.le_refl _) (Nat.le_refl _) ⟨rfl, rfl⟩
    · refine ab_aload_n (x := _) (pc2 := 32) dX9_behindNumber_31 rfl rfl ?_
      refine ab_iload_n (pc2 := 33) dX9_behindNumber_32 rfl rfl ?_
      obtain ⟨q7, hq7, hf⟩ := ab_bind hf
      obtain ⟨w8, ew8, hf⟩ := ab_bind hf
      refine ab_callV (pc2 := 36) (st := []) hq7 (T_i0 q7 hq7) (by decide) (m_X6_read (d := (d + 1)) (T_i0 q7 hq7) ew8) mf_X6_read tw_25 tw_24 ts_X6_read (Or.inl (by decide +kernel)) dX9_behindNumber_33 rfl (by omega) (Nat.le_refl _) (Nat.le_refl _) rfl (Nat.le_of_ble_eq_true rfl) (ab_kPi ?_)
      obtain ⟨w9, ew9, hf⟩ := ab_bind hf
      refine ab_callS (pc2 := 39) (st := []) (m_X9_isDigit (d := (d + 2)) ew9) mf_X9_isDigit tw_26 tw_27 dX9_behindNumber_36 rfl (by omega) (Nat.le_refl _) (Nat.le_refl _) rfl (Nat.le_of_ble_eq_true rfl) (ab_kPb fun z10 => ?_)
      refine ab_if_eq (tgt := 51) (pc2 := 42) dX9_behindNumber_39 (by decide) rfl hf (fun c11 hf => ?_) (fun c11 hf => ?_)
      · refine ab_iload_n (pc2 := 52) dX9_behindNumber_51 rfl rfl ?_
        cases Option.some.inj hf
        exact ab_retI dX9_behindNumber_52 (Or.inl rfl) (Nat.le_refl _) (Nat.le_refl _) ⟨rfl, rfl⟩
      · refine ab_iinc (pc2 := 45) (v := _ + 1) (lo2 := [some (va_rf _), none, some (.int _), some (.int _), some (.int _)]) dX9_behindNumber_42 rfl rfl rfl (by decide) rfl ?_
        refine ab_iinc (pc2 := 48) (v := _ + 1) (lo2 := [some (va_rf _), none, some (.int _), some (.int _), some (.int _)]) dX9_behindNumber_45 rfl rfl rfl (by decide) rfl ?_
        refine ab_goto (tgt := 25) dX9_behindNumber_48 (by decide) ?_
        exact ab_weak (ih _ _ _ _ _ T_i0 hf) (ab_leS (ab_leN (ab_leS (ab_leS (ab_leS ab_le0)))))
set_option maxHeartbeats 4000000 in
set_option maxRecDepth 100000 in
theorem x_X9_behindNumber {d : Nat} {i0 : Option Nat} {i1 : Int32} {i2 : Int32} {h : ab_HP} {r : Int32} (T_i0 : ∀ z, i0 = some z → (ab_shp z).1 = 3) (hf : f_X9_behindNumber i0 i1 i2 h = some r) : ab_T mX9_behindNumber (d + 3) 0 0 0 0 0 [some (va_rf i0), some (.int i1), some (.int i2), none, none] [] h (ab_Pi r h) := by
  unfold f_X9_behindNumber at hf
  refine ab_aload_n (x := _) (pc2 := 1) dX9_behindNumber_0 rfl rfl ?_
  refine ab_iload_n (pc2 := 2) dX9_behindNumber_1 rfl rfl ?_
  obtain ⟨w1, ew1, hf⟩ := ab_bind hf
  refine ab_callS (pc2 := 5) (st := []) (m_X9_behindDigit (d := (d + 0)) T_i0 ew1) mf_X9_behindDigit tw_32 tw_33 dX9_behindNumber_2 rfl (by omega) (Nat.le_refl _) (Nat.le_refl _) rfl (Nat.le_of_ble_eq_true rfl) (ab_kPi ?_)
  refine ab_istore_n (pc2 := 6) (lo2 := [some (va_rf _), some (.int _), some (.int _), some (.int _), none]) dX9_behindNumber_5 rfl (by decide) rfl ?_
  refine ab_iload_n (pc2 := 7) dX9_behindNumber_6 rfl rfl ?_
  refine ab_if_lt (tgt := 20) (pc2 := 10) dX9_behindNumber_7 (by decide) rfl hf (fun c2 hf => ?_) (fun c2 hf => ?_)
  · refine ab_iload_n (pc2 := 21) dX9_behindNumber_20 rfl rfl ?_
    cases Option.some.inj hf
    exact ab_retI dX9_behindNumber_21 (Or.inl rfl) (Nat.le_refl _) (Nat.le_refl _) ⟨rfl, rfl⟩
  · refine ab_aload_n (x := _) (pc2 := 11) dX9_behindNumber_10 rfl rfl ?_
    refine ab_iload_n (pc2 := 12) dX9_behindNumber_11 rfl rfl ?_
    obtain ⟨q3, hq3, hf⟩ := ab_bind hf
    obtain ⟨w4, ew4, hf⟩ := ab_bind hf
    refine ab_callV (pc2 := 15) (st := []) hq3 (T_i0 q3 hq3) (by decide) (m_X6_read (d := (d + 1)) (T_i0 q3 hq3) ew4) mf_X6_read tw_25 tw_24 ts_X6_read (Or.inl (by decide +kernel)) dX9_behindNumber_12 rfl (by omega) (Nat.le_refl _) (Nat.le_refl _) rfl (Nat.le_of_ble_eq_true rfl) (ab_kPi ?_)
    refine ab_bipush (pc2 := 17) (v := 48) dX9_behindNumber_15 rfl ab_k_bipush_48 ?_
    refine ab_icmp_ne (tgt := 22) (pc2 := 20) dX9_behindNumber_17 (by decide) rfl hf (fun c5 hf => ?_) (fun c5 hf => ?_)
    · refine ab_iconst (pc2 := 23) (v := 1) dX9_behindNumber_22 rfl ab_k_iconst_1 ?_
      refine ab_istore (pc2 := 25) (lo2 := [some (va_rf _), some (.int _), some (.int _), some (.int _), some (.int _)]) dX9_behindNumber_23 rfl (by decide) rfl ?_
      exact ab_weak (x_X9_behindNumber_l25  _ _ _ _ _ _ T_i0 hf) (ab_leS (ab_leN (ab_leS (ab_leS (ab_leS ab_le0)))))
    · refine ab_iload_n (pc2 := 21) dX9_behindNumber_20 rfl rfl ?_
      cases Option.some.inj hf
      exact ab_retI dX9_behindNumber_21 (Or.inl rfl) (Nat.le_refl _) (Nat.le_refl _) ⟨rfl, rfl⟩
set_option maxHeartbeats 4000000 in
set_option maxRecDepth 100000 in
theorem m_X9_behindNumber {d : Nat} {i0 : Option Nat} {i1 : Int32} {i2 : Int32} {h : ab_HP} {r : Int32} (T_i0 : ∀ z, i0 = some z → (ab_shp z).1 = 3) (hf : f_X9_behindNumber i0 i1 i2 h = some r) : ab_MET mX9_behindNumber (d + 3) 0 0 [va_rf i0, .int i1, .int i2] h (ab_Pi r h) := ab_met (by decide +kernel) (by decide +kernel) (by simp [ab_lo, ab_rf1, ab_cI, ab_cJ]) (by simp [ab_lo0, ab_lo, ab_rf1, ab_cI, ab_cJ, List.replicate]) (x_X9_behindNumber T_i0 hf)
set_option maxHeartbeats 4000000 in
set_option maxRecDepth 100000 in
theorem x_X9_behindDeed {d : Nat} {i0 : Option Nat} {i1 : Int32} {h : ab_HP} {r : Int32} (T_i0 : ∀ z, i0 = some z → (ab_shp z).1 = 3) (hf : f_X9_behindDeed i0 i1 h = some r) : ab_T mX9_behindDeed (d + 4) 0 0 0 0 0 [some (va_rf i0), some (.int i1), none] [] h (ab_Pi r h) := by
  unfold f_X9_behindDeed at hf
  refine ab_aload_n (x := _) (pc2 := 1) dX9_behindDeed_0 rfl rfl ?_
  refine ab_aload_n (x := _) (pc2 := 2) dX9_behindDeed_1 rfl rfl ?_
  refine ab_iload_n (pc2 := 3) dX9_behindDeed_2 rfl rfl ?_
  obtain ⟨w1, ew1, hf⟩ := ab_bind hf
  refine ab_callS (pc2 := 6) (st := [_]) (m_X9_behindDigit (d := (d + 1)) T_i0 ew1) mf_X9_behindDigit tw_32 tw_33 dX9_behindDeed_3 rfl (by omega) (Nat.le_refl _) (Nat.le_refl _) rfl (Nat.le_of_ble_eq_true rfl) (ab_kPi ?_)
  obtain ⟨w2, ew2, hf⟩ := ab_bind hf
  refine ab_callS (pc2 := 9) (st := []) (m_X9_behindNeeds (d := (d + 1)) T_i0 ew2) mf_X9_behindNeeds tw_34 tw_35 dX9_behindDeed_6 rfl (by omega) (Nat.le_refl _) (Nat.le_refl _) rfl (Nat.le_of_ble_eq_true rfl) (ab_kPi ?_)
  refine ab_istore_n (pc2 := 10) (lo2 := [some (va_rf _), some (.int _), some (.int _)]) dX9_behindDeed_9 rfl (by decide) rfl ?_
  refine ab_aload_n (x := _) (pc2 := 11) dX9_behindDeed_10 rfl rfl ?_
  refine ab_aload_n (x := _) (pc2 := 12) dX9_behindDeed_11 rfl rfl ?_
  refine ab_iload_n (pc2 := 13) dX9_behindDeed_12 rfl rfl ?_
  refine ab_bipush (pc2 := 15) (v := 32) dX9_behindDeed_13 rfl ab_k_bipush_32 ?_
  obtain ⟨w3, ew3, hf⟩ := ab_bind hf
  refine ab_callS (pc2 := 18) (st := [_]) (m_X9_behindSign (d := (d + 1)) T_i0 ew3) mf_X9_behindSign tw_36 tw_37 dX9_behindDeed_15 rfl (by omega) (Nat.le_refl _) (Nat.le_refl _) rfl (Nat.le_of_ble_eq_true rfl) (ab_kPi ?_)
  obtain ⟨w4, ew4, hf⟩ := ab_bind hf
  refine ab_callS (pc2 := 21) (st := []) (m_X9_behindLetter (d := (d + 1)) T_i0 ew4) mf_X9_behindLetter tw_38 tw_39 dX9_behindDeed_18 rfl (by omega) (Nat.le_refl _) (Nat.le_refl _) rfl (Nat.le_of_ble_eq_true rfl) (ab_kPi ?_)
  refine ab_istore_n (pc2 := 22) (lo2 := [some (va_rf _), some (.int _), some (.int _)]) dX9_behindDeed_21 rfl (by decide) rfl ?_
  refine ab_aload_n (x := _) (pc2 := 23) dX9_behindDeed_22 rfl rfl ?_
  refine ab_aload_n (x := _) (pc2 := 24) dX9_behindDeed_23 rfl rfl ?_
  refine ab_iload_n (pc2 := 25) dX9_behindDeed_24 rfl rfl ?_
  refine ab_iconst (pc2 := 26) (v := 2) dX9_behindDeed_25 rfl ab_k_iconst_2 ?_
  obtain ⟨w5, ew5, hf⟩ := ab_bind hf
  refine ab_callS (pc2 := 29) (st := [_]) (m_X9_behindNumber (d := (d + 0)) T_i0 ew5) mf_X9_behindNumber tw_40 tw_41 dX9_behindDeed_26 rfl (by omega) (Nat.le_refl _) (Nat.le_refl _) rfl (Nat.le_of_ble_eq_true rfl) (ab_kPi ?_)
  refine ab_bipush (pc2 := 31) (v := 32) dX9_behindDeed_29 rfl ab_k_bipush_32 ?_
  obtain ⟨w6, ew6, hf⟩ := ab_bind hf
  refine ab_callS (pc2 := 34) (st := []) (m_X9_behindSign (d := (d + 1)) T_i0 ew6) mf_X9_behindSign tw_36 tw_37 dX9_behindDeed_31 rfl (by omega) (Nat.le_refl _) (Nat.le_refl _) rfl (Nat.le_of_ble_eq_true rfl) (ab_kPi ?_)
  refine ab_istore_n (pc2 := 35) (lo2 := [some (va_rf _), some (.int _), some (.int _)]) dX9_behindDeed_34 rfl (by decide) rfl ?_
  refine ab_aload_n (x := _) (pc2 := 36) dX9_behindDeed_35 rfl rfl ?_
  refine ab_iload_n (pc2 := 37) dX9_behindDeed_36 rfl rfl ?_
  obtain ⟨w7, ew7, hf⟩ := ab_bind hf
  refine ab_callS (pc2 := 40) (st := []) (m_X9_behindDigit (d := (d + 1)) T_i0 ew7) mf_X9_behindDigit tw_32 tw_33 dX9_behindDeed_37 rfl (by omega) (Nat.le_refl _) (Nat.le_refl _) rfl (Nat.le_of_ble_eq_true rfl) (ab_kPi ?_)
  cases Option.some.inj hf
  exact ab_retI dX9_behindDeed_40 (Or.inl rfl) (Nat.le_refl _) (Nat.le_refl _) ⟨rfl, rfl⟩
set_option maxHeartbeats 4000000 in
set_option maxRecDepth 100000 in
theorem m_X9_behindDeed {d : Nat} {i0 : Option Nat} {i1 : Int32} {h : ab_HP} {r : Int32} (T_i0 : ∀ z, i0 = some z → (ab_shp z).1 = 3) (hf : f_X9_behindDeed i0 i1 h = some r) : ab_MET mX9_behindDeed (d + 4) 0 0 [va_rf i0, .int i1] h (ab_Pi r h) := ab_met (by decide +kernel) (by decide +kernel) (by simp [ab_lo, ab_rf1, ab_cI, ab_cJ]) (by simp [ab_lo0, ab_lo, ab_rf1, ab_cI, ab_cJ, List.replicate]) (x_X9_behindDeed T_i0 hf)
