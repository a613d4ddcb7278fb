set_option maxHeartbeats 4000000 in
set_option maxRecDepth 100000 in
theorem x_J6_bitCount_0f7a4 {d : Nat} {i0 : Int32} {h : ab_HP} {r : Int32}  (hf : f_J6_bitCount_0f7a4 i0 h = some r) : ab_T mJ6_bitCount_0f7a4 (d + 0) 0 0 0 0 0 [some (.int i0)] [] h (ab_Pi r h) := by
  unfold f_J6_bitCount_0f7a4 at hf
  refine ab_iload_n (pc2 := 1) dJ6_bitCount_0f7a4_0 rfl rfl ?_
  refine ab_iload_n (pc2 := 2) dJ6_bitCount_0f7a4_1 rfl rfl ?_
  refine ab_iconst (pc2 := 3) (v := 1) dJ6_bitCount_0f7a4_2 rfl ab_k_iconst_1 ?_
  refine ab_iushr (pc2 := 4) dJ6_bitCount_0f7a4_3 rfl ?_
  refine ab_ldcw (pc2 := 7) (v := 1431655765) dJ6_bitCount_0f7a4_4 rfl tw_0 ?_
  refine ab_iand (pc2 := 8) dJ6_bitCount_0f7a4_7 rfl ?_
  refine ab_isub (pc2 := 9) dJ6_bitCount_0f7a4_8 rfl ?_
  have hf := ab_let_e hf
  refine ab_istore_n (pc2 := 10) (lo2 := [some (.int _)]) dJ6_bitCount_0f7a4_9 rfl (by decide) rfl ?_
  refine ab_iload_n (pc2 := 11) dJ6_bitCount_0f7a4_10 rfl rfl ?_
  refine ab_ldcw (pc2 := 14) (v := 858993459) dJ6_bitCount_0f7a4_11 rfl tw_1 ?_
  refine ab_iand (pc2 := 15) dJ6_bitCount_0f7a4_14 rfl ?_
  refine ab_iload_n (pc2 := 16) dJ6_bitCount_0f7a4_15 rfl rfl ?_
  refine ab_iconst (pc2 := 17) (v := 2) dJ6_bitCount_0f7a4_16 rfl ab_k_iconst_2 ?_
  refine ab_iushr (pc2 := 18) dJ6_bitCount_0f7a4_17 rfl ?_
  refine ab_ldcw (pc2 := 21) (v := 858993459) dJ6_bitCount_0f7a4_18 rfl tw_1 ?_
  refine ab_iand (pc2 := 22) dJ6_bitCount_0f7a4_21 rfl ?_
  refine ab_iadd (pc2 := 23) dJ6_bitCount_0f7a4_22 rfl ?_
  have hf := ab_let_e hf
  refine ab_istore_n (pc2 := 24) (lo2 := [some (.int _)]) dJ6_bitCount_0f7a4_23 rfl (by decide) rfl ?_
  refine ab_iload_n (pc2 := 25) dJ6_bitCount_0f7a4_24 rfl rfl ?_
  refine ab_iload_n (pc2 := 26) dJ6_bitCount_0f7a4_25 rfl rfl ?_
  refine ab_iconst (pc2 := 27) (v := 4) dJ6_bitCount_0f7a4_26 rfl ab_k_iconst_4 ?_
  refine ab_iushr (pc2 := 28) dJ6_bitCount_0f7a4_27 rfl ?_
  refine ab_iadd (pc2 := 29) dJ6_bitCount_0f7a4_28 rfl ?_
  refine ab_ldcw (pc2 := 32) (v := 252645135) dJ6_bitCount_0f7a4_29 rfl tw_2 ?_
  refine ab_iand (pc2 := 33) dJ6_bitCount_0f7a4_32 rfl ?_
  have hf := ab_let_e hf
  refine ab_istore_n (pc2 := 34) (lo2 := [some (.int _)]) dJ6_bitCount_0f7a4_33 rfl (by decide) rfl ?_
  refine ab_iload_n (pc2 := 35) dJ6_bitCount_0f7a4_34 rfl rfl ?_
  refine ab_iload_n (pc2 := 36) dJ6_bitCount_0f7a4_35 rfl rfl ?_
  refine ab_bipush (pc2 := 38) (v := 8) dJ6_bitCount_0f7a4_36 rfl ab_k_bipush_8 ?_
  refine ab_iushr (pc2 := 39) dJ6_bitCount_0f7a4_38 rfl ?_
  refine ab_iadd (pc2 := 40) dJ6_bitCount_0f7a4_39 rfl ?_
  have hf := ab_let_e hf
  refine ab_istore_n (pc2 := 41) (lo2 := [some (.int _)]) dJ6_bitCount_0f7a4_40 rfl (by decide) rfl ?_
  refine ab_iload_n (pc2 := 42) dJ6_bitCount_0f7a4_41 rfl rfl ?_
  refine ab_iload_n (pc2 := 43) dJ6_bitCount_0f7a4_42 rfl rfl ?_
  refine ab_bipush (pc2 := 45) (v := 16) dJ6_bitCount_0f7a4_43 rfl ab_k_bipush_16 ?_
  refine ab_iushr (pc2 := 46) dJ6_bitCount_0f7a4_45 rfl ?_
  refine ab_iadd (pc2 := 47) dJ6_bitCount_0f7a4_46 rfl ?_
  have hf := ab_let_e hf
  refine ab_istore_n (pc2 := 48) (lo2 := [some (.int _)]) dJ6_bitCount_0f7a4_47 rfl (by decide) rfl ?_
  refine ab_iload_n (pc2 := 49) dJ6_bitCount_0f7a4_48 rfl rfl ?_
  refine ab_bipush (pc2 := 51) (v := 63) dJ6_bitCount_0f7a4_49 rfl ab_k_bipush_63 ?_
  refine ab_iand (pc2 := 52) dJ6_bitCount_0f7a4_51 rfl ?_
  cases Option.some.inj hf
  exact ab_retI dJ6_bitCount_0f7a4_52 (Or.inl rfl) (Nat.le_refl _) (Nat.le_refl _) ⟨rfl, rfl⟩
set_option maxHeartbeats 4000000 in
set_option maxRecDepth 100000 in
theorem m_J6_bitCount_0f7a4 {d : Nat} {i0 : Int32} {h : ab_HP} {r : Int32}  (hf : f_J6_bitCount_0f7a4 i0 h = some r) : ab_MET mJ6_bitCount_0f7a4 (d + 0) 0 0 [.int i0] h (ab_Pi r h) := ab_met (by decide +kernel) (by decide +kernel) (Nat.le_of_ble_eq_true rfl) rfl (x_J6_bitCount_0f7a4  hf)
set_option maxHeartbeats 4000000 in
set_option maxRecDepth 100000 in
theorem x_X9_init {d : Nat} {t0 : Nat} {h : ab_HP} {r : ab_HP} (ht0 : (ab_shp t0).1 = 1) (hf : f_X9_init t0 h = some r) : ab_T mX9_init (d + 1) 1 8 0 0 0 [some (va_rf (some t0))] [] h (ab_Pv r) := by
  unfold f_X9_init at hf
  refine ab_aload_n (x := _) (pc2 := 1) dX9_init_0 rfl rfl ?_
  refine ab_objInit (pc2 := 4) rfl tw_3 tw_4 tw_obj (by omega) (Nat.le_of_ble_eq_true rfl) dX9_init_1 rfl ?_
  refine ab_aload_n (x := _) (pc2 := 5) dX9_init_4 rfl rfl ?_
  refine ab_bipush (pc2 := 7) (v := 8) dX9_init_5 rfl ab_k_bipush_8 ?_
  obtain ⟨b1, hf⟩ := ab_guard hf
  have hf := ab_let_e hf
  refine ab_newaR (pc2 := 10) tw_5 (Or.inl ⟨rfl, rfl⟩) b1 (by decide) (by decide) (by decide) (by omega) (by omega) dX9_init_7 rfl ?_
  have hf := ab_let_e hf
  refine ab_putR (pc2 := 13) rfl ht0 fa_X9_11 (ab_ty1 (congrArg Prod.fst b1)) (fun _ => rfl) dX9_init_10 rfl ?_
  refine ab_aload_n (x := _) (pc2 := 14) dX9_init_13 rfl rfl ?_
  refine ab_bipush (pc2 := 16) (v := 100) dX9_init_14 rfl ab_k_bipush_100 ?_
  have hf := ab_let_e hf
  refine ab_putI (pc2 := 19) rfl ht0 fa_X9_17 (Or.inl rfl) (fun z => by cases z) dX9_init_16 rfl ?_
  refine ab_aload_n (x := _) (pc2 := 20) dX9_init_19 rfl rfl ?_
  refine ab_bipush (pc2 := 22) (v := 10) dX9_init_20 rfl ab_k_bipush_10 ?_
  have hf := ab_let_e hf
  refine ab_putI (pc2 := 25) rfl ht0 fa_X9_21 (Or.inl rfl) (fun z => by cases z) dX9_init_22 rfl ?_
  cases Option.some.inj hf
  exact ab_retV dX9_init_25 rfl (by omega) (by omega) ⟨rfl, rfl⟩
set_option maxHeartbeats 4000000 in
set_option maxRecDepth 100000 in
theorem m_X9_init {d : Nat} {t0 : Nat} {h : ab_HP} {r : ab_HP} (ht0 : (ab_shp t0).1 = 1) (hf : f_X9_init t0 h = some r) : ab_MET mX9_init (d + 1) 1 8 [va_rf (some t0)] h (ab_Pv r) := ab_met (by decide +kernel) (by decide +kernel) (Nat.le_of_ble_eq_true rfl) rfl (x_X9_init ht0 hf)
set_option maxHeartbeats 4000000 in
set_option maxRecDepth 100000 in
theorem x_X10_init {d : Nat} {t0 : Nat} {h : ab_HP} {r : ab_HP} (ht0 : (ab_shp t0).1 = 2) (hf : f_X10_init t0 h = some r) : ab_T mX10_init (d + 1) 3 48 0 0 0 [some (va_rf (some t0))] [] h (ab_Pv r) := by
  unfold f_X10_init at hf
  refine ab_aload_n (x := _) (pc2 := 1) dX10_init_0 rfl rfl ?_
  refine ab_objInit (pc2 := 4) rfl tw_6 tw_4 tw_obj (by omega) (Nat.le_of_ble_eq_true rfl) dX10_init_1 rfl ?_
  refine ab_aload_n (x := _) (pc2 := 5) dX10_init_4 rfl rfl ?_
  refine ab_bipush (pc2 := 7) (v := 16) dX10_init_5 rfl ab_k_bipush_16 ?_
  obtain ⟨b1, hf⟩ := ab_guard hf
  have hf := ab_let_e hf
  refine ab_newaR (pc2 := 10) tw_7 (Or.inl ⟨rfl, rfl⟩) b1 (by decide) (by decide) (by decide) (by omega) (by omega) dX10_init_7 rfl ?_
  have hf := ab_let_e hf
  refine ab_putR (pc2 := 13) rfl ht0 fa_X10_11 (ab_ty1 (congrArg Prod.fst b1)) (fun _ => rfl) dX10_init_10 rfl ?_
  refine ab_aload_n (x := _) (pc2 := 14) dX10_init_13 rfl rfl ?_
  refine ab_bipush (pc2 := 16) (v := 16) dX10_init_14 rfl ab_k_bipush_16 ?_
  obtain ⟨b4, hf⟩ := ab_guard hf
  have hf := ab_let_e hf
  refine ab_newaI (pc2 := 18) tw_8 b4 (by decide) (by decide) (by decide) (by omega) (by omega) dX10_init_16 rfl ?_
  have hf := ab_let_e hf
  refine ab_putR (pc2 := 21) rfl ht0 fa_X10_17 (ab_ty1 (congrArg Prod.fst b4)) (fun _ => rfl) dX10_init_18 rfl ?_
  refine ab_aload_n (x := _) (pc2 := 22) dX10_init_21 rfl rfl ?_
  refine ab_bipush (pc2 := 24) (v := 16) dX10_init_22 rfl ab_k_bipush_16 ?_
  obtain ⟨b7, hf⟩ := ab_guard hf
  have hf := ab_let_e hf
  refine ab_newaI (pc2 := 26) tw_8 b7 (by decide) (by decide) (by decide) (by omega) (by omega) dX10_init_24 rfl ?_
  have hf := ab_let_e hf
  refine ab_putR (pc2 := 29) rfl ht0 fa_X10_21 (ab_ty1 (congrArg Prod.fst b7)) (fun _ => rfl) dX10_init_26 rfl ?_
  cases Option.some.inj hf
  exact ab_retV dX10_init_29 rfl (by omega) (by omega) ⟨rfl, rfl⟩
set_option maxHeartbeats 4000000 in
set_option maxRecDepth 100000 in
theorem m_X10_init {d : Nat} {t0 : Nat} {h : ab_HP} {r : ab_HP} (ht0 : (ab_shp t0).1 = 2) (hf : f_X10_init t0 h = some r) : ab_MET mX10_init (d + 1) 3 48 [va_rf (some t0)] h (ab_Pv r) := ab_met (by decide +kernel) (by decide +kernel) (Nat.le_of_ble_eq_true rfl) rfl (x_X10_init ht0 hf)
set_option maxHeartbeats 4000000 in
set_option maxRecDepth 100000 in
theorem x_X6_init {d : Nat} {t0 : Nat} {h : ab_HP} {r : ab_HP} (ht0 : (ab_shp t0).1 = 3) (hf : f_X6_init t0 h = some r) : ab_T mX6_init (d + 1) 1 100 0 0 0 [some (va_rf (some t0))] [] h (ab_Pv r) := by
  unfold f_X6_init at hf
  refine ab_aload_n (x := _) (pc2 := 1) dX6_init_0 rfl rfl ?_
  refine ab_objInit (pc2 := 4) rfl tw_9 tw_4 tw_obj (by omega) (Nat.le_of_ble_eq_true rfl) dX6_init_1 rfl ?_
  refine ab_aload_n (x := _) (pc2 := 5) dX6_init_4 rfl rfl ?_
  refine ab_bipush (pc2 := 7) (v := 100) dX6_init_5 rfl ab_k_bipush_100 ?_
  obtain ⟨b1, hf⟩ := ab_guard hf
  have hf := ab_let_e hf
  refine ab_newaI (pc2 := 9) tw_8 b1 (by decide) (by decide) (by decide) (by omega) (by omega) dX6_init_7 rfl ?_
  have hf := ab_let_e hf
  refine ab_putR (pc2 := 12) rfl ht0 fa_X6_11 (ab_ty1 (congrArg Prod.fst b1)) (fun _ => rfl) dX6_init_9 rfl ?_
  refine ab_aload_n (x := _) (pc2 := 13) dX6_init_12 rfl rfl ?_
  refine ab_iconst (pc2 := 14) (v := (-1)) dX6_init_13 rfl ab_k_iconst_m1 ?_
  have hf := ab_let_e hf
  refine ab_putI (pc2 := 17) rfl ht0 fa_X6_15 (Or.inl rfl) (fun z => by cases z) dX6_init_14 rfl ?_
  cases Option.some.inj hf
  exact ab_retV dX6_init_17 rfl (by omega) (by omega) ⟨rfl, rfl⟩
set_option maxHeartbeats 4000000 in
set_option maxRecDepth 100000 in
theorem m_X6_init {d : Nat} {t0 : Nat} {h : ab_HP} {r : ab_HP} (ht0 : (ab_shp t0).1 = 3) (hf : f_X6_init t0 h = some r) : ab_MET mX6_init (d + 1) 1 100 [va_rf (some t0)] h (ab_Pv r) := ab_met (by decide +kernel) (by decide +kernel) (Nat.le_of_ble_eq_true rfl) rfl (x_X6_init ht0 hf)
set_option maxHeartbeats 4000000 in
set_option maxRecDepth 100000 in
theorem x_X6_isEmpty {d : Nat} {t0 : Nat} {h : ab_HP} {r : Int32} (ht0 : (ab_shp t0).1 = 3) (hf : f_X6_isEmpty t0 h = some r) : ab_T mX6_isEmpty (d + 0) 0 0 0 0 0 [some (va_rf (some t0))] [] h (ab_Pb r h) := by
  unfold f_X6_isEmpty at hf
  refine ab_aload_n (x := _) (pc2 := 1) dX6_isEmpty_0 rfl rfl ?_
  refine ab_getR (pc2 := 4) rfl ht0 fa_X6_19 dX6_isEmpty_1 rfl (fun T1 => ?_)
  refine ab_nnul (tgt := 19) (pc2 := 7) dX6_isEmpty_4 (by decide) rfl hf (fun hq2 hf => ?_) (fun q2 hq2 hf => ?_)
  · refine ab_aload_n (x := _) (pc2 := 8) dX6_isEmpty_7 rfl rfl ?_
    refine ab_getI (pc2 := 11) rfl ht0 fa_X6_15 (by decide) dX6_isEmpty_8 rfl ?_
    refine ab_iconst (pc2 := 12) (v := (-1)) dX6_isEmpty_11 rfl ab_k_iconst_m1 ?_
    refine ab_icmp_ne (tgt := 19) (pc2 := 15) dX6_isEmpty_12 (by decide) rfl hf (fun c3 hf => ?_) (fun c3 hf => ?_)
    · refine ab_iconst (pc2 := 20) (v := 0) dX6_isEmpty_19 rfl ab_k_iconst_0 ?_
      cases Option.some.inj hf
      exact ab_retI dX6_isEmpty_20 (Or.inr ⟨rfl, (Or.inl rfl)⟩) (Nat.le_refl _) (Nat.le_refl _) ⟨rfl, rfl, (Or.inl rfl)⟩
    · refine ab_iconst (pc2 := 16) (v := 1) dX6_isEmpty_15 rfl ab_k_iconst_1 ?_
      refine ab_goto (tgt := 20) dX6_isEmpty_16 (by decide) ?_
      cases Option.some.inj hf
      exact ab_retI dX6_isEmpty_20 (Or.inr ⟨rfl, (Or.inr rfl)⟩) (Nat.le_refl _) (Nat.le_refl _) ⟨rfl, rfl, (Or.inr rfl)⟩
  · refine ab_iconst (pc2 := 20) (v := 0) dX6_isEmpty_19 rfl ab_k_iconst_0 ?_
    cases Option.some.inj hf
    exact ab_retI dX6_isEmpty_20 (Or.inr ⟨rfl, (Or.inl rfl)⟩) (Nat.le_refl _) (Nat.le_refl _) ⟨rfl, rfl, (Or.inl rfl)⟩
set_option maxHeartbeats 4000000 in
set_option maxRecDepth 100000 in
theorem m_X6_isEmpty {d : Nat} {t0 : Nat} {h : ab_HP} {r : Int32} (ht0 : (ab_shp t0).1 = 3) (hf : f_X6_isEmpty t0 h = some r) : ab_MET mX6_isEmpty (d + 0) 0 0 [va_rf (some t0)] h (ab_Pb r h) := ab_met (by decide +kernel) (by decide +kernel) (Nat.le_of_ble_eq_true rfl) rfl (x_X6_isEmpty ht0 hf)
set_option maxHeartbeats 4000000 in
set_option maxRecDepth 100000 in
theorem x_X6_bytesRefusal {d : Nat} {t0 : Nat} {h : ab_HP} {r : Int32} (ht0 : (ab_shp t0).1 = 3) (hf : f_X6_bytesRefusal t0 h = some r) : ab_T mX6_bytesRefusal (d + 1) 0 0 0 0 0 [some (va_rf (some t0))] [] h (ab_Pi r h) := by
  unfold f_X6_bytesRefusal at hf
  refine ab_aload_n (x := _) (pc2 := 1) dX6_bytesRefusal_0 rfl rfl ?_
  obtain ⟨w1, ew1, hf⟩ := ab_bind hf
  refine ab_callV (pc2 := 4) (st := []) rfl ht0 (by decide) (m_X6_isEmpty (d := (d + 0)) ht0 ew1) mf_X6_isEmpty tw_17 tw_16 ts_X6_isEmpty (Or.inl (by decide +kernel)) dX6_bytesRefusal_1 rfl (by omega) (Nat.le_refl _) (Nat.le_refl _) rfl (Nat.le_of_ble_eq_true rfl) (fun v u hp => ?_)
  obtain ⟨rfl, rfl, z2⟩ := hp
  show ab_T _ _ _ _ 0 0 4 _ (.int _ :: []) _ _
  refine ab_if_eq (tgt := 12) (pc2 := 7) dX6_bytesRefusal_4 (by decide) rfl hf (fun c3 hf => ?_) (fun c3 hf => ?_)
  · refine ab_aload_n (x := _) (pc2 := 13) dX6_bytesRefusal_12 rfl rfl ?_
    refine ab_getI (pc2 := 16) rfl ht0 fa_X6_15 (by decide) dX6_bytesRefusal_13 rfl ?_
    refine ab_if_eq (tgt := 24) (pc2 := 19) dX6_bytesRefusal_16 (by decide) rfl hf (fun c4 hf => ?_) (fun c4 hf => ?_)
    · refine ab_iconst (pc2 := 25) (v := 0) dX6_bytesRefusal_24 rfl ab_k_iconst_0 ?_
      cases Option.some.inj hf
      exact ab_retI dX6_bytesRefusal_25 (Or.inl rfl) (Nat.le_refl _) (Nat.le_refl _) ⟨rfl, rfl⟩
    · refine ab_bipush (pc2 := 21) (v := (-12)) dX6_bytesRefusal_19 rfl ab_k_bipush_m12 ?_
      refine ab_goto (tgt := 25) dX6_bytesRefusal_21 (by decide) ?_
      cases Option.some.inj hf
      exact ab_retI dX6_bytesRefusal_25 (Or.inl rfl) (Nat.le_refl _) (Nat.le_refl _) ⟨rfl, rfl⟩
  · refine ab_bipush (pc2 := 9) (v := (-11)) dX6_bytesRefusal_7 rfl ab_k_bipush_m11 ?_
    refine ab_goto (tgt := 25) dX6_bytesRefusal_9 (by decide) ?_
    cases Option.some.inj hf
    exact ab_retI dX6_bytesRefusal_25 (Or.inl rfl) (Nat.le_refl _) (Nat.le_refl _) ⟨rfl, rfl⟩
set_option maxHeartbeats 4000000 in
set_option maxRecDepth 100000 in
theorem m_X6_bytesRefusal {d : Nat} {t0 : Nat} {h : ab_HP} {r : Int32} (ht0 : (ab_shp t0).1 = 3) (hf : f_X6_bytesRefusal t0 h = some r) : ab_MET mX6_bytesRefusal (d + 1) 0 0 [va_rf (some t0)] h (ab_Pi r h) := ab_met (by decide +kernel) (by decide +kernel) (Nat.le_of_ble_eq_true rfl) rfl (x_X6_bytesRefusal ht0 hf)
set_option maxHeartbeats 4000000 in
set_option maxRecDepth 100000 in
theorem x_X9_deedAt {d : Nat} {t0 : Nat} {i1 : Int32} {h : ab_HP} {r : (Option Nat)} (ht0 : (ab_shp t0).1 = 1) (hf : f_X9_deedAt t0 i1 h = some r) : ab_T mX9_deedAt (d + 0) 0 0 0 0 0 [some (va_rf (some t0)), some (.int i1)] [] h (ab_Pr 4 r h) := by
  unfold f_X9_deedAt at hf
  refine ab_iload_n (pc2 := 1) dX9_deedAt_0 rfl rfl ?_
  refine ab_if_lt (tgt := 30) (pc2 := 4) dX9_deedAt_1 (by decide) rfl hf (fun c1 hf => ?_) (fun c1 hf => ?_)
  · refine ab_null (pc2 := 31) dX9_deedAt_30 rfl ?_
    cases Option.some.inj hf
    exact ab_retA dX9_deedAt_31 ⟨_, rfl⟩ (Nat.le_refl _) (Nat.le_refl _) ⟨rfl, rfl, (fun z hz => by cases hz)⟩
  · refine ab_iload_n (pc2 := 5) dX9_deedAt_4 rfl rfl ?_
    refine ab_aload_n (x := _) (pc2 := 6) dX9_deedAt_5 rfl rfl ?_
    refine ab_getI (pc2 := 9) rfl ht0 fa_X9_28 (by decide) dX9_deedAt_6 rfl ?_
    refine ab_icmp_ge (tgt := 30) (pc2 := 12) dX9_deedAt_9 (by decide) rfl hf (fun c2 hf => ?_) (fun c2 hf => ?_)
    · refine ab_null (pc2 := 31) dX9_deedAt_30 rfl ?_
      cases Option.some.inj hf
      exact ab_retA dX9_deedAt_31 ⟨_, rfl⟩ (Nat.le_refl _) (Nat.le_refl _) ⟨rfl, rfl, (fun z hz => by cases hz)⟩
    · refine ab_iload_n (pc2 := 13) dX9_deedAt_12 rfl rfl ?_
      refine ab_aload_n (x := _) (pc2 := 14) dX9_deedAt_13 rfl rfl ?_
      refine ab_getR (pc2 := 17) rfl ht0 fa_X9_11 dX9_deedAt_14 rfl (fun T3 => ?_)
      obtain ⟨q4, hq4, hf⟩ := ab_bind hf
      refine ab_alen (pc2 := 18) hq4 (Or.inr (Or.inl (T3 q4 hq4))) dX9_deedAt_17 rfl ?_
      refine ab_icmp_ge (tgt := 30) (pc2 := 21) dX9_deedAt_18 (by decide) rfl hf (fun c5 hf => ?_) (fun c5 hf => ?_)
      · refine ab_null (pc2 := 31) dX9_deedAt_30 rfl ?_
        cases Option.some.inj hf
        exact ab_retA dX9_deedAt_31 ⟨_, rfl⟩ (Nat.le_refl _) (Nat.le_refl _) ⟨rfl, rfl, (fun z hz => by cases hz)⟩
      · refine ab_aload_n (x := _) (pc2 := 22) dX9_deedAt_21 rfl rfl ?_
        refine ab_getR (pc2 := 25) rfl ht0 fa_X9_11 dX9_deedAt_22 rfl (fun T6 => ?_)
        refine ab_iload_n (pc2 := 26) dX9_deedAt_25 rfl rfl ?_
        obtain ⟨q7, hq7, hf⟩ := ab_bind hf
        obtain ⟨b8, hf⟩ := ab_guard hf
        refine ab_aald (pc2 := 27) hq7 (T6 q7 hq7) (Or.inl rfl) (ab_in_vp b8) dX9_deedAt_26 rfl (fun T9 => ?_)
        refine ab_goto (tgt := 31) dX9_deedAt_27 (by decide) ?_
        cases Option.some.inj hf
        exact ab_retA dX9_deedAt_31 ⟨_, rfl⟩ (Nat.le_refl _) (Nat.le_refl _) ⟨rfl, rfl, T9⟩
set_option maxHeartbeats 4000000 in
set_option maxRecDepth 100000 in
theorem m_X9_deedAt {d : Nat} {t0 : Nat} {i1 : Int32} {h : ab_HP} {r : (Option Nat)} (ht0 : (ab_shp t0).1 = 1) (hf : f_X9_deedAt t0 i1 h = some r) : ab_MET mX9_deedAt (d + 0) 0 0 [va_rf (some t0), .int i1] h (ab_Pr 4 r h) := ab_met (by decide +kernel) (by decide +kernel) (Nat.le_of_ble_eq_true rfl) rfl (x_X9_deedAt ht0 hf)
set_option maxHeartbeats 4000000 in
set_option maxRecDepth 100000 in
theorem x_X9_become_l2 {d : Nat} {t0 : Nat} {r : ab_HP} (ht0 : (ab_shp t0).1 = 1) : ∀ (n : Nat) (i1 : Option Nat) (i2 : Int32) (h : ab_HP), (∀ z, i1 = some z → (ab_shp z).1 = 1) → f_X9_become_l2 t0 n i1 i2 h = some r → ab_T mX9_become (d + 1) 0 0 0 0 2 [some (va_rf (some t0)), some (va_rf i1), some (.int i2)] [] h (ab_Pv r) := by
  intro n
  induction n with
  | zero =>
    intro i1 i2 h T_i1 hf
    rw [f_X9_become_l2] at hf
    cases hf
  | succ n ih =>
    intro i1 i2 h T_i1 hf
    rw [f_X9_become_l2] at hf
    refine ab_iload_n (pc2 := 3) dX9_become_2 rfl rfl ?_
    refine ab_aload_n (x := _) (pc2 := 4) dX9_become_3 rfl rfl ?_
    refine ab_getR (pc2 := 7) rfl ht0 fa_X9_11 dX9_become_4 rfl (fun T1 => ?_)
    obtain ⟨q2, hq2, hf⟩ := ab_bind hf
    refine ab_alen (pc2 := 8) hq2 (Or.inr (Or.inl (T1 q2 hq2))) dX9_become_7 rfl ?_
    refine ab_icmp_ge (tgt := 28) (pc2 := 11) dX9_become_8 (by decide) rfl hf (fun c3 hf => ?_) (fun c3 hf => ?_)
    · refine ab_aload_n (x := _) (pc2 := 29) dX9_become_28 rfl rfl ?_
      refine ab_aload_n (x := _) (pc2 := 30) dX9_become_29 rfl rfl ?_
      obtain ⟨q4, hq4, hf⟩ := ab_bind hf
      refine ab_getI (pc2 := 33) hq4 (T_i1 q4 hq4) fa_X9_28 (by decide) dX9_become_30 rfl ?_
      have hf := ab_let_e hf
      refine ab_putI (pc2 := 36) rfl ht0 fa_X9_28 (Or.inl rfl) (fun z => by cases z) dX9_become_33 rfl ?_
      refine ab_aload_n (x := _) (pc2 := 37) dX9_become_36 rfl rfl ?_
      refine ab_aload_n (x := _) (pc2 := 38) dX9_become_37 rfl rfl ?_
      refine ab_getI (pc2 := 41) hq4 (T_i1 q4 hq4) fa_X9_31 (by decide) dX9_become_38 rfl ?_
      have hf := ab_let_e hf
      refine ab_putI (pc2 := 44) rfl ht0 fa_X9_31 (Or.inl rfl) (fun z => by cases z) dX9_become_41 rfl ?_
      refine ab_aload_n (x := _) (pc2 := 45) dX9_become_44 rfl rfl ?_
      refine ab_aload_n (x := _) (pc2 := 46) dX9_become_45 rfl rfl ?_
      refine ab_getI (pc2 := 49) hq4 (T_i1 q4 hq4) fa_X9_17 (by decide) dX9_become_46 rfl ?_
      have hf := ab_let_e hf
      refine ab_putI (pc2 := 52) rfl ht0 fa_X9_17 (Or.inl rfl) (fun z => by cases z) dX9_become_49 rfl ?_
      refine ab_aload_n (x := _) (pc2 := 53) dX9_become_52 rfl rfl ?_
      refine ab_aload_n (x := _) (pc2 := 54) dX9_become_53 rfl rfl ?_
      refine ab_getI (pc2 := 57) hq4 (T_i1 q4 hq4) fa_X9_34 (by decide) dX9_become_54 rfl ?_
      have hf := ab_let_e hf
      refine ab_putI (pc2 := 60) rfl ht0 fa_X9_34 (Or.inl rfl) (fun z => by cases z) dX9_become_57 rfl ?_
      refine ab_aload_n (x := _) (pc2 := 61) dX9_become_60 rfl rfl ?_
      refine ab_aload_n (x := _) (pc2 := 62) dX9_become_61 rfl rfl ?_
      refine ab_getI (pc2 := 65) hq4 (T_i1 q4 hq4) fa_X9_21 (by decide) dX9_become_62 rfl ?_
      have hf := ab_let_e hf
      refine ab_putI (pc2 := 68) rfl ht0 fa_X9_21 (Or.inl rfl) (fun z => by cases z) dX9_become_65 rfl ?_
      refine ab_aload_n (x := _) (pc2 := 69) dX9_become_68 rfl rfl ?_
      refine ab_aload_n (x := _) (pc2 := 70) dX9_become_69 rfl rfl ?_
      refine ab_getI (pc2 := 73) hq4 (T_i1 q4 hq4) fa_X9_37 (by decide) dX9_become_70 rfl ?_
      have hf := ab_let_e hf
      refine ab_putI (pc2 := 76) rfl ht0 fa_X9_37 (Or.inl rfl) (fun z => by cases z) dX9_become_73 rfl ?_
      refine ab_aload_n (x := _) (pc2 := 77) dX9_become_76 rfl rfl ?_
      refine ab_aload_n (x := _) (pc2 := 78) dX9_become_77 rfl rfl ?_
      refine ab_getI (pc2 := 81) hq4 (T_i1 q4 hq4) fa_X9_40 (by decide) dX9_become_78 rfl ?_
      have hf := ab_let_e hf
      refine ab_putI (pc2 := 84) rfl ht0 fa_X9_40 (Or.inl rfl) (fun z => by cases z) dX9_become_81 rfl ?_
      cases Option.some.inj hf
      exact ab_retV dX9_become_84 rfl (Nat.le_refl _) (Nat.le_refl _) ⟨rfl, rfl⟩
    · refine ab_aload_n (x := _) (pc2 := 12) dX9_become_11 rfl rfl ?_
      refine ab_getR (pc2 := 15) rfl ht0 fa_X9_11 dX9_become_12 rfl (fun T12 => ?_)
      refine ab_iload_n (pc2 := 16) dX9_become_15 rfl rfl ?_
      refine ab_aload_n (x := _) (pc2 := 17) dX9_become_16 rfl rfl ?_
      refine ab_iload_n (pc2 := 18) dX9_become_17 rfl rfl ?_
      obtain ⟨q13, hq13, hf⟩ := ab_bind hf
      obtain ⟨w14, ew14, hf⟩ := ab_bind hf
      refine ab_callV (pc2 := 21) (st := [_, _]) hq13 (T_i1 q13 hq13) (by decide) (m_X9_deedAt (d := (d + 0)) (T_i1 q13 hq13) ew14) mf_X9_deedAt tw_19 tw_18 ts_X9_deedAt (Or.inl (by decide +kernel)) dX9_become_18 rfl (by omega) (Nat.le_refl _) (Nat.le_refl _) rfl (Nat.le_of_ble_eq_true rfl) (fun v u hp => ?_)
      obtain ⟨rfl, rfl, T15⟩ := hp
      show ab_T _ _ _ _ 0 0 21 _ (va_rf _ :: [_, _]) _ _
      obtain ⟨q16, hq16, hf⟩ := ab_bind hf
      obtain ⟨b17, hf⟩ := ab_guard hf
      have hf := ab_let_e hf
      refine ab_aast (pc2 := 22) hq16 (T12 q16 hq16) (Or.inl rfl) T15 (ab_in_vp b17) dX9_become_21 rfl ?_
      refine ab_iinc (pc2 := 25) (v := _ + 1) (lo2 := [some (va_rf _), some (va_rf _), some (.int _)]) dX9_become_22 rfl rfl rfl (by decide) rfl ?_
      refine ab_goto (tgt := 2) dX9_become_25 (by decide) ?_
      exact ab_weak (ih _ _ _ T_i1 hf) (ab_leS (ab_leS (ab_leS ab_le0)))
set_option maxHeartbeats 4000000 in
set_option maxRecDepth 100000 in
theorem x_X9_become {d : Nat} {t0 : Nat} {i1 : Option Nat} {h : ab_HP} {r : ab_HP} (ht0 : (ab_shp t0).1 = 1) (T_i1 : ∀ z, i1 = some z → (ab_shp z).1 = 1) (hf : f_X9_become t0 i1 h = some r) : ab_T mX9_become (d + 1) 0 0 0 0 0 [some (va_rf (some t0)), some (va_rf i1), none] [] h (ab_Pv r) := by
  unfold f_X9_become at hf
  refine ab_iconst (pc2 := 1) (v := 0) dX9_become_0 rfl ab_k_iconst_0 ?_
  refine ab_istore_n (pc2 := 2) (lo2 := [some (va_rf _), some (va_rf _), some (.int _)]) dX9_become_1 rfl (by decide) rfl ?_
  exact ab_weak (x_X9_become_l2 ht0 _ _ _ _ T_i1 hf) (ab_leS (ab_leS (ab_leS ab_le0)))
set_option maxHeartbeats 4000000 in
set_option maxRecDepth 100000 in
theorem m_X9_become {d : Nat} {t0 : Nat} {i1 : Option Nat} {h : ab_HP} {r : ab_HP} (ht0 : (ab_shp t0).1 = 1) (T_i1 : ∀ z, i1 = some z → (ab_shp z).1 = 1) (hf : f_X9_become t0 i1 h = some r) : ab_MET mX9_become (d + 1) 0 0 [va_rf (some t0), va_rf i1] h (ab_Pv r) := ab_met (by decide +kernel) (by decide +kernel) (by simp [ab_lo, ab_rf1, Value.category]) (by simp [ab_lo0, ab_lo, ab_rf1, Value.category, List.replicate]) (x_X9_become ht0 T_i1 hf)
set_option maxHeartbeats 4000000 in
set_option maxRecDepth 100000 in
theorem x_X6_hasPlace {d : Nat} {t0 : Nat} {i1 : Int32} {h : ab_HP} {r : Int32} (ht0 : (ab_shp t0).1 = 3) (hf : f_X6_hasPlace t0 i1 h = some r) : ab_T mX6_hasPlace (d + 0) 0 0 0 0 0 [some (va_rf (some t0)), some (.int i1)] [] h (ab_Pb r h) := by
  unfold f_X6_hasPlace at hf
  refine ab_iload_n (pc2 := 1) dX6_hasPlace_0 rfl rfl ?_
  refine ab_if_lt (tgt := 16) (pc2 := 4) dX6_hasPlace_1 (by decide) rfl hf (fun c1 hf => ?_) (fun c1 hf => ?_)
  · refine ab_iconst (pc2 := 17) (v := 0) dX6_hasPlace_16 rfl ab_k_iconst_0 ?_
    cases Option.some.inj hf
    exact ab_retI dX6_hasPlace_17 (Or.inr ⟨rfl, (Or.inl rfl)⟩) (Nat.le_refl _) (Nat.le_refl _) ⟨rfl, rfl, (Or.inl rfl)⟩
  · refine ab_iload_n (pc2 := 5) dX6_hasPlace_4 rfl rfl ?_
    refine ab_aload_n (x := _) (pc2 := 6) dX6_hasPlace_5 rfl rfl ?_
    refine ab_getI (pc2 := 9) rfl ht0 fa_X6_23 (by decide) dX6_hasPlace_6 rfl ?_
    refine ab_icmp_ge (tgt := 16) (pc2 := 12) dX6_hasPlace_9 (by decide) rfl hf (fun c2 hf => ?_) (fun c2 hf => ?_)
    · refine ab_iconst (pc2 := 17) (v := 0) dX6_hasPlace_16 rfl ab_k_iconst_0 ?_
      cases Option.some.inj hf
      exact ab_retI dX6_hasPlace_17 (Or.inr ⟨rfl, (Or.inl rfl)⟩) (Nat.le_refl _) (Nat.le_refl _) ⟨rfl, rfl, (Or.inl rfl)⟩
    · refine ab_iconst (pc2 := 13) (v := 1) dX6_hasPlace_12 rfl ab_k_iconst_1 ?_
      refine ab_goto (tgt := 17) dX6_hasPlace_13 (by decide) ?_
      cases Option.some.inj hf
      exact ab_retI dX6_hasPlace_17 (Or.inr ⟨rfl, (Or.inr rfl)⟩) (Nat.le_refl _) (Nat.le_refl _) ⟨rfl, rfl, (Or.inr rfl)⟩
set_option maxHeartbeats 4000000 in
set_option maxRecDepth 100000 in
theorem m_X6_hasPlace {d : Nat} {t0 : Nat} {i1 : Int32} {h : ab_HP} {r : Int32} (ht0 : (ab_shp t0).1 = 3) (hf : f_X6_hasPlace t0 i1 h = some r) : ab_MET mX6_hasPlace (d + 0) 0 0 [va_rf (some t0), .int i1] h (ab_Pb r h) := ab_met (by decide +kernel) (by decide +kernel) (Nat.le_of_ble_eq_true rfl) rfl (x_X6_hasPlace ht0 hf)
set_option maxHeartbeats 4000000 in
set_option maxRecDepth 100000 in
theorem x_X11_at {d : Nat} {i0 : Option Nat} {i1 : Int32} {h : ab_HP} {r : Int32} (T_i0 : ∀ z, i0 = some z → (ab_shp z).1 = 6) (hf : f_X11_at i0 i1 h = some r) : ab_T mX11_at (d + 0) 0 0 0 0 0 [some (va_rf i0), some (.int i1)] [] h (ab_Pi r h) := by
  unfold f_X11_at at hf
  refine ab_iload_n (pc2 := 1) dX11_at_0 rfl rfl ?_
  refine ab_if_lt (tgt := 16) (pc2 := 4) dX11_at_1 (by decide) rfl hf (fun c1 hf => ?_) (fun c1 hf => ?_)
  · refine ab_iconst (pc2 := 17) (v := 0) dX11_at_16 rfl ab_k_iconst_0 ?_
    cases Option.some.inj hf
    exact ab_retI dX11_at_17 (Or.inl rfl) (Nat.le_refl _) (Nat.le_refl _) ⟨rfl, rfl⟩
  · refine ab_iload_n (pc2 := 5) dX11_at_4 rfl rfl ?_
    refine ab_aload_n (x := _) (pc2 := 6) dX11_at_5 rfl rfl ?_
    obtain ⟨q2, hq2, hf⟩ := ab_bind hf
    refine ab_alen (pc2 := 7) hq2 (Or.inl (T_i0 q2 hq2)) dX11_at_6 rfl ?_
    refine ab_icmp_ge (tgt := 16) (pc2 := 10) dX11_at_7 (by decide) rfl hf (fun c3 hf => ?_) (fun c3 hf => ?_)
    · refine ab_iconst (pc2 := 17) (v := 0) dX11_at_16 rfl ab_k_iconst_0 ?_
      cases Option.some.inj hf
      exact ab_retI dX11_at_17 (Or.inl rfl) (Nat.le_refl _) (Nat.le_refl _) ⟨rfl, rfl⟩
    · refine ab_aload_n (x := _) (pc2 := 11) dX11_at_10 rfl rfl ?_
      refine ab_iload_n (pc2 := 12) dX11_at_11 rfl rfl ?_
      obtain ⟨b4, hf⟩ := ab_guard hf
      refine ab_iald (pc2 := 13) hq2 (T_i0 q2 hq2) (ab_in_vp b4) dX11_at_12 rfl ?_
      refine ab_goto (tgt := 17) dX11_at_13 (by decide) ?_
      cases Option.some.inj hf
      exact ab_retI dX11_at_17 (Or.inl rfl) (Nat.le_refl _) (Nat.le_refl _) ⟨rfl, rfl⟩
set_option maxHeartbeats 4000000 in
set_option maxRecDepth 100000 in
theorem m_X11_at {d : Nat} {i0 : Option Nat} {i1 : Int32} {h : ab_HP} {r : Int32} (T_i0 : ∀ z, i0 = some z → (ab_shp z).1 = 6) (hf : f_X11_at i0 i1 h = some r) : ab_MET mX11_at (d + 0) 0 0 [va_rf i0, .int i1] h (ab_Pi r h) := ab_met (by decide +kernel) (by decide +kernel) (by simp [ab_lo, ab_rf1, Value.category]) (by simp [ab_lo0, ab_lo, ab_rf1, Value.category, List.replicate]) (x_X11_at T_i0 hf)
set_option maxHeartbeats 4000000 in
set_option maxRecDepth 100000 in
theorem x_X6_read {d : Nat} {t0 : Nat} {i1 : Int32} {h : ab_HP} {r : Int32} (ht0 : (ab_shp t0).1 = 3) (hf : f_X6_read t0 i1 h = some r) : ab_T mX6_read (d + 1) 0 0 0 0 0 [some (va_rf (some t0)), some (.int i1)] [] h (ab_Pi r h) := by
  unfold f_X6_read at hf
  refine ab_aload_n (x := _) (pc2 := 1) dX6_read_0 rfl rfl ?_
  refine ab_iload_n (pc2 := 2) dX6_read_1 rfl rfl ?_
  obtain ⟨w1, ew1, hf⟩ := ab_bind hf
  refine ab_callV (pc2 := 5) (st := []) rfl ht0 (by decide) (m_X6_hasPlace (d := (d + 0)) ht0 ew1) mf_X6_hasPlace tw_21 tw_20 ts_X6_hasPlace (Or.inl (by decide +kernel)) dX6_read_2 rfl (by omega) (Nat.le_refl _) (Nat.le_refl _) rfl (Nat.le_of_ble_eq_true rfl) (fun v u hp => ?_)
  obtain ⟨rfl, rfl, z2⟩ := hp
  show ab_T _ _ _ _ 0 0 5 _ (.int _ :: []) _ _
  refine ab_if_eq (tgt := 19) (pc2 := 8) dX6_read_5 (by decide) rfl hf (fun c3 hf => ?_) (fun c3 hf => ?_)
  · refine ab_ldc (pc2 := 21) (v := (-2147483648)) dX6_read_19 rfl tw_22 ?_
    cases Option.some.inj hf
    exact ab_retI dX6_read_21 (Or.inl rfl) (Nat.le_refl _) (Nat.le_refl _) ⟨rfl, rfl⟩
  · refine ab_aload_n (x := _) (pc2 := 9) dX6_read_8 rfl rfl ?_
    refine ab_getR (pc2 := 12) rfl ht0 fa_X6_11 dX6_read_9 rfl (fun T4 => ?_)
    refine ab_iload_n (pc2 := 13) dX6_read_12 rfl rfl ?_
    obtain ⟨w5, ew5, hf⟩ := ab_bind hf
    refine ab_callSN (pc2 := 16) (st := []) (m_X11_at (d := (d + 0)) T4 ew5) mf_X11_at tn_X6_34 tw_23 dX6_read_13 rfl (by omega) (Nat.le_refl _) (Nat.le_refl _) rfl (Nat.le_of_ble_eq_true rfl) (fun v u hp => ?_)
    obtain ⟨rfl, rfl⟩ := hp
    show ab_T _ _ _ _ 0 0 16 _ (.int _ :: []) _ _
    refine ab_goto (tgt := 21) dX6_read_16 (by decide) ?_
    cases Option.some.inj hf
    exact ab_retI dX6_read_21 (Or.inl rfl) (Nat.le_refl _) (Nat.le_refl _) ⟨rfl, rfl⟩
set_option maxHeartbeats 4000000 in
set_option maxRecDepth 100000 in
theorem m_X6_read {d : Nat} {t0 : Nat} {i1 : Int32} {h : ab_HP} {r : Int32} (ht0 : (ab_shp t0).1 = 3) (hf : f_X6_read t0 i1 h = some r) : ab_MET mX6_read (d + 1) 0 0 [va_rf (some t0), .int i1] h (ab_Pi r h) := ab_met (by decide +kernel) (by decide +kernel) (Nat.le_of_ble_eq_true rfl) rfl (x_X6_read ht0 hf)
set_option maxHeartbeats 4000000 in
set_option maxRecDepth 100000 in
theorem x_X9_isDigit {d : Nat} {i0 : Int32} {h : ab_HP} {r : Int32}  (hf : f_X9_isDigit i0 h = some r) : ab_T mX9_isDigit (d + 0) 0 0 0 0 0 [some (.int i0)] [] h (ab_Pb r h) := by
  unfold f_X9_isDigit at hf
  refine ab_iload_n (pc2 := 1) dX9_isDigit_0 rfl rfl ?_
  refine ab_bipush (pc2 := 3) (v := 48) dX9_isDigit_1 rfl ab_k_bipush_48 ?_
  refine ab_icmp_lt (tgt := 16) (pc2 := 6) dX9_isDigit_3 (by decide) rfl hf (fun c1 hf => ?_) (fun c1 hf => ?_)
  · refine ab_iconst (pc2 := 17) (v := 0) dX9_isDigit_16 rfl ab_k_iconst_0 ?_
    cases Option.some.inj hf
    exact ab_retI dX9_isDigit_17 (Or.inr ⟨rfl, (Or.inl rfl)⟩) (Nat.le_refl _) (Nat.le_refl _) ⟨rfl, rfl, (Or.inl rfl)⟩
  · refine ab_iload_n (pc2 := 7) dX9_isDigit_6 rfl rfl ?_
    refine ab_bipush (pc2 := 9) (v := 57) dX9_isDigit_7 rfl ab_k_bipush_57 ?_
    refine ab_icmp_gt (tgt := 16) (pc2 := 12) dX9_isDigit_9 (by decide) rfl hf (fun c2 hf => ?_) (fun c2 hf => ?_)
    · refine ab_iconst (pc2 := 17) (v := 0) dX9_isDigit_16 rfl ab_k_iconst_0 ?_
      cases Option.some.inj hf
      exact ab_retI dX9_isDigit_17 (Or.inr ⟨rfl, (Or.inl rfl)⟩) (Nat.le_refl _) (Nat.le_refl _) ⟨rfl, rfl, (Or.inl rfl)⟩
    · refine ab_iconst (pc2 := 13) (v := 1) dX9_isDigit_12 rfl ab_k_iconst_1 ?_
      refine ab_goto (tgt := 17) dX9_isDigit_13 (by decide) ?_
      cases Option.some.inj hf
      exact ab_retI dX9_isDigit_17 (Or.inr ⟨rfl, (Or.inr rfl)⟩) (Nat.le_refl _) (Nat.le_refl _) ⟨rfl, rfl, (Or.inr rfl)⟩
set_option maxHeartbeats 4000000 in
set_option maxRecDepth 100000 in
theorem m_X9_isDigit {d : Nat} {i0 : Int32} {h : ab_HP} {r : Int32}  (hf : f_X9_isDigit i0 h = some r) : ab_MET mX9_isDigit (d + 0) 0 0 [.int i0] h (ab_Pb r h) := ab_met (by decide +kernel) (by decide +kernel) (Nat.le_of_ble_eq_true rfl) rfl (x_X9_isDigit  hf)
set_option maxHeartbeats 4000000 in
set_option maxRecDepth 100000 in
theorem x_X9_wrongAt {d : Nat} {i0 : Int32} {h : ab_HP} {r : Int32}  (hf : f_X9_wrongAt i0 h = some r) : ab_T mX9_wrongAt (d + 0) 0 0 0 0 0 [some (.int i0)] [] h (ab_Pi r h) := by
  unfold f_X9_wrongAt at hf
  refine ab_iconst (pc2 := 1) (v := (-1)) dX9_wrongAt_0 rfl ab_k_iconst_m1 ?_
  refine ab_iload_n (pc2 := 2) dX9_wrongAt_1 rfl rfl ?_
  refine ab_isub (pc2 := 3) dX9_wrongAt_2 rfl ?_
  cases Option.some.inj hf
  exact ab_retI dX9_wrongAt_3 (Or.inl rfl) (Nat.le_refl _) (Nat.le_refl _) ⟨rfl, rfl⟩
set_option maxHeartbeats 4000000 in
set_option maxRecDepth 100000 in
theorem m_X9_wrongAt {d : Nat} {i0 : Int32} {h : ab_HP} {r : Int32}  (hf : f_X9_wrongAt i0 h = some r) : ab_MET mX9_wrongAt (d + 0) 0 0 [.int i0] h (ab_Pi r h) := ab_met (by decide +kernel) (by decide +kernel) (Nat.le_of_ble_eq_true rfl) rfl (x_X9_wrongAt  hf)
set_option maxHeartbeats 4000000 in
set_option maxRecDepth 100000 in
theorem x_X9_behindDigit {d : Nat} {i0 : Option Nat} {i1 : Int32} {h : ab_HP} {r : Int32} (T_i0 : ∀ z, i0 = some z → (ab_shp z).1 = 3) (hf : f_X9_behindDigit i0 i1 h = some r) : ab_T mX9_behindDigit (d + 2) 0 0 0 0 0 [some (va_rf i0), some (.int i1)] [] h (ab_Pi r h) := by
  unfold f_X9_behindDigit at hf
  refine ab_iload_n (pc2 := 1) dX9_behindDigit_0 rfl rfl ?_
  refine ab_if_ge (tgt := 6) (pc2 := 4) dX9_behindDigit_1 (by decide) rfl hf (fun c1 hf => ?_) (fun c1 hf => ?_)
  · refine ab_aload_n (x := _) (pc2 := 7) dX9_behindDigit_6 rfl rfl ?_
    refine ab_iload_n (pc2 := 8) dX9_behindDigit_7 rfl rfl ?_
    obtain ⟨q2, hq2, hf⟩ := ab_bind hf
    obtain ⟨w3, ew3, hf⟩ := ab_bind hf
    refine ab_callV (pc2 := 11) (st := []) hq2 (T_i0 q2 hq2) (by decide) (m_X6_read (d := (d + 0)) (T_i0 q2 hq2) ew3) mf_X6_read tw_25 tw_24 ts_X6_read (Or.inl (by decide +kernel)) dX9_behindDigit_8 rfl (by omega) (Nat.le_refl _) (Nat.le_refl _) rfl (Nat.le_of_ble_eq_true rfl) (fun v u hp => ?_)
    obtain ⟨rfl, rfl⟩ := hp
    show ab_T _ _ _ _ 0 0 11 _ (.int _ :: []) _ _
    obtain ⟨w4, ew4, hf⟩ := ab_bind hf
    refine ab_callS (pc2 := 14) (st := []) (m_X9_isDigit (d := (d + 1)) ew4) mf_X9_isDigit tw_26 tw_27 dX9_behindDigit_11 rfl (by omega) (Nat.le_refl _) (Nat.le_refl _) rfl (Nat.le_of_ble_eq_true rfl) (fun v u hp => ?_)
    obtain ⟨rfl, rfl, z5⟩ := hp
    show ab_T _ _ _ _ 0 0 14 _ (.int _ :: []) _ _
    refine ab_if_eq (tgt := 23) (pc2 := 17) dX9_behindDigit_14 (by decide) rfl hf (fun c6 hf => ?_) (fun c6 hf => ?_)
    · refine ab_iload_n (pc2 := 24) dX9_behindDigit_23 rfl rfl ?_
      obtain ⟨w7, ew7, hf⟩ := ab_bind hf
      refine ab_callS (pc2 := 27) (st := []) (m_X9_wrongAt (d := (d + 1)) ew7) mf_X9_wrongAt tw_28 tw_29 dX9_behindDigit_24 rfl (by omega) (Nat.le_refl _) (Nat.le_refl _) rfl (Nat.le_of_ble_eq_true rfl) (fun v u hp => ?_)
      obtain ⟨rfl, rfl⟩ := hp
      show ab_T _ _ _ _ 0 0 27 _ (.int _ :: []) _ _
      cases Option.some.inj hf
      exact ab_retI dX9_behindDigit_27 (Or.inl rfl) (Nat.le_refl _) (Nat.le_refl _) ⟨rfl, rfl⟩
    · refine ab_iload_n (pc2 := 18) dX9_behindDigit_17 rfl rfl ?_
      refine ab_iconst (pc2 := 19) (v := 1) dX9_behindDigit_18 rfl ab_k_iconst_1 ?_
      refine ab_iadd (pc2 := 20) dX9_behindDigit_19 rfl ?_
      refine ab_goto (tgt := 27) dX9_behindDigit_20 (by decide) ?_
      cases Option.some.inj hf
      exact ab_retI dX9_behindDigit_27 (Or.inl rfl) (Nat.le_refl _) (Nat.le_refl _) ⟨rfl, rfl⟩
  · refine ab_iload_n (pc2 := 5) dX9_behindDigit_4 rfl rfl ?_
    cases Option.some.inj hf
    exact ab_retI dX9_behindDigit_5 (Or.inl rfl) (Nat.le_refl _) (Nat.le_refl _) ⟨rfl, rfl⟩
set_option maxHeartbeats 4000000 in
set_option maxRecDepth 100000 in
theorem m_X9_behindDigit {d : Nat} {i0 : Option Nat} {i1 : Int32} {h : ab_HP} {r : Int32} (T_i0 : ∀ z, i0 = some z → (ab_shp z).1 = 3) (hf : f_X9_behindDigit i0 i1 h = some r) : ab_MET mX9_behindDigit (d + 2) 0 0 [va_rf i0, .int i1] h (ab_Pi r h) := ab_met (by decide +kernel) (by decide +kernel) (by simp [ab_lo, ab_rf1, Value.category]) (by simp [ab_lo0, ab_lo, ab_rf1, Value.category, List.replicate]) (x_X9_behindDigit T_i0 hf)
set_option maxHeartbeats 4000000 in
set_option maxRecDepth 100000 in
theorem x_X9_isLetter {d : Nat} {i0 : Int32} {h : ab_HP} {r : Int32}  (hf : f_X9_isLetter i0 h = some r) : ab_T mX9_isLetter (d + 0) 0 0 0 0 0 [some (.int i0)] [] h (ab_Pb r h) := by
  unfold f_X9_isLetter at hf
  refine ab_iload_n (pc2 := 1) dX9_isLetter_0 rfl rfl ?_
  refine ab_bipush (pc2 := 3) (v := 97) dX9_isLetter_1 rfl ab_k_bipush_97 ?_
  refine ab_icmp_lt (tgt := 16) (pc2 := 6) dX9_isLetter_3 (by decide) rfl hf (fun c1 hf => ?_) (fun c1 hf => ?_)
  · refine ab_iconst (pc2 := 17) (v := 0) dX9_isLetter_16 rfl ab_k_iconst_0 ?_
    cases Option.some.inj hf
    exact ab_retI dX9_isLetter_17 (Or.inr ⟨rfl, (Or.inl rfl)⟩) (Nat.le_refl _) (Nat.le_refl _) ⟨rfl, rfl, (Or.inl rfl)⟩
  · refine ab_iload_n (pc2 := 7) dX9_isLetter_6 rfl rfl ?_
    refine ab_bipush (pc2 := 9) (v := 106) dX9_isLetter_7 rfl ab_k_bipush_106 ?_
    refine ab_icmp_gt (tgt := 16) (pc2 := 12) dX9_isLetter_9 (by decide) rfl hf (fun c2 hf => ?_) (fun c2 hf => ?_)
    · refine ab_iconst (pc2 := 17) (v := 0) dX9_isLetter_16 rfl ab_k_iconst_0 ?_
      cases Option.some.inj hf
      exact ab_retI dX9_isLetter_17 (Or.inr ⟨rfl, (Or.inl rfl)⟩) (Nat.le_refl _) (Nat.le_refl _) ⟨rfl, rfl, (Or.inl rfl)⟩
    · refine ab_iconst (pc2 := 13) (v := 1) dX9_isLetter_12 rfl ab_k_iconst_1 ?_
      refine ab_goto (tgt := 17) dX9_isLetter_13 (by decide) ?_
      cases Option.some.inj hf
      exact ab_retI dX9_isLetter_17 (Or.inr ⟨rfl, (Or.inr rfl)⟩) (Nat.le_refl _) (Nat.le_refl _) ⟨rfl, rfl, (Or.inr rfl)⟩
set_option maxHeartbeats 4000000 in
set_option maxRecDepth 100000 in
theorem m_X9_isLetter {d : Nat} {i0 : Int32} {h : ab_HP} {r : Int32}  (hf : f_X9_isLetter i0 h = some r) : ab_MET mX9_isLetter (d + 0) 0 0 [.int i0] h (ab_Pb r h) := ab_met (by decide +kernel) (by decide +kernel) (Nat.le_of_ble_eq_true rfl) rfl (x_X9_isLetter  hf)
set_option maxHeartbeats 4000000 in
set_option maxRecDepth 100000 in
theorem x_X9_behindNeeds_l7 {d : Nat}  {r : Int32}  : ∀ (n : Nat) (i0 : Option Nat) (i2 : Int32) (i3 : Int32) (i4 : Int32) (h : ab_HP), (∀ z, i0 = some z → (ab_shp z).1 = 3) → f_X9_behindNeeds_l7  n i0 i2 i3 i4 h = some r → ab_T mX9_behindNeeds (d + 2) 0 0 0 0 7 [some (va_rf i0), none, some (.int i2), some (.int i3), some (.int i4)] [] h (ab_Pi r h) := by
  intro n
  induction n with
  | zero =>
    intro i0 i2 i3 i4 h T_i0 hf
    rw [f_X9_behindNeeds_l7] at hf
    cases hf
  | succ n ih =>
    intro i0 i2 i3 i4 h T_i0 hf
    rw [f_X9_behindNeeds_l7] at hf
    refine ab_iload (pc2 := 9) dX9_behindNeeds_7 rfl rfl ?_
    refine ab_bipush (pc2 := 11) (v := 10) dX9_behindNeeds_9 rfl ab_k_bipush_10 ?_
    refine ab_icmp_ge (tgt := 49) (pc2 := 14) dX9_behindNeeds_11 (by decide) rfl hf (fun c1 hf => ?_) (fun c1 hf => ?_)
    · refine ab_iload_n (pc2 := 50) dX9_behindNeeds_49 rfl rfl ?_
      cases Option.some.inj hf
      exact ab_retI dX9_behindNeeds_50 (Or.inl rfl) (Nat.le_refl _) (Nat.le_refl _) ⟨rfl, rfl⟩
    · refine ab_aload_n (x := _) (pc2 := 15) dX9_behindNeeds_14 rfl rfl ?_
      refine ab_iload_n (pc2 := 16) dX9_behindNeeds_15 rfl rfl ?_
      obtain ⟨q2, hq2, hf⟩ := ab_bind hf
      obtain ⟨w3, ew3, hf⟩ := ab_bind hf
      refine ab_callV (pc2 := 19) (st := []) hq2 (T_i0 q2 hq2) (by decide) (m_X6_read (d := (d + 0)) (T_i0 q2 hq2) ew3) mf_X6_read tw_25 tw_24 ts_X6_read (Or.inl (by decide +kernel)) dX9_behindNeeds_16 rfl (by omega) (Nat.le_refl _) (Nat.le_refl _) rfl (Nat.le_of_ble_eq_true rfl) (fun v u hp => ?_)
      obtain ⟨rfl, rfl⟩ := hp
      show ab_T _ _ _ _ 0 0 19 _ (.int _ :: []) _ _
      obtain ⟨w4, ew4, hf⟩ := ab_bind hf
      refine ab_callS (pc2 := 22) (st := []) (m_X9_isLetter (d := (d + 1)) ew4) mf_X9_isLetter tw_30 tw_31 dX9_behindNeeds_19 rfl (by omega) (Nat.le_refl _) (Nat.le_refl _) rfl (Nat.le_of_ble_eq_true rfl) (fun v u hp => ?_)
      obtain ⟨rfl, rfl, z5⟩ := hp
      show ab_T _ _ _ _ 0 0 22 _ (.int _ :: []) _ _
      refine ab_if_eq (tgt := 49) (pc2 := 25) dX9_behindNeeds_22 (by decide) rfl hf (fun c6 hf => ?_) (fun c6 hf => ?_)
      · refine ab_iload_n (pc2 := 50) dX9_behindNeeds_49 rfl rfl ?_
        cases Option.some.inj hf
        exact ab_retI dX9_behindNeeds_50 (Or.inl rfl) (Nat.le_refl _) (Nat.le_refl _) ⟨rfl, rfl⟩
      · refine ab_aload_n (x := _) (pc2 := 26) dX9_behindNeeds_25 rfl rfl ?_
        refine ab_iload_n (pc2 := 27) dX9_behindNeeds_26 rfl rfl ?_
        obtain ⟨w7, ew7, hf⟩ := ab_bind hf
        refine ab_callV (pc2 := 30) (st := []) hq2 (T_i0 q2 hq2) (by decide) (m_X6_read (d := (d + 0)) (T_i0 q2 hq2) ew7) mf_X6_read tw_25 tw_24 ts_X6_read (Or.inl (by decide +kernel)) dX9_behindNeeds_27 rfl (by omega) (Nat.le_refl _) (Nat.le_refl _) rfl (Nat.le_of_ble_eq_true rfl) (fun v u hp => ?_)
        obtain ⟨rfl, rfl⟩ := hp
        show ab_T _ _ _ _ 0 0 30 _ (.int _ :: []) _ _
        refine ab_iload_n (pc2 := 31) dX9_behindNeeds_30 rfl rfl ?_
        refine ab_icmp_le (tgt := 49) (pc2 := 34) dX9_behindNeeds_31 (by decide) rfl hf (fun c8 hf => ?_) (fun c8 hf => ?_)
        · refine ab_iload_n (pc2 := 50) dX9_behindNeeds_49 rfl rfl ?_
          cases Option.some.inj hf
          exact ab_retI dX9_behindNeeds_50 (Or.inl rfl) (Nat.le_refl _) (Nat.le_refl _) ⟨rfl, rfl⟩
        · refine ab_aload_n (x := _) (pc2 := 35) dX9_behindNeeds_34 rfl rfl ?_
          refine ab_iload_n (pc2 := 36) dX9_behindNeeds_35 rfl rfl ?_
          obtain ⟨w9, ew9, hf⟩ := ab_bind hf
          refine ab_callV (pc2 := 39) (st := []) hq2 (T_i0 q2 hq2) (by decide) (m_X6_read (d := (d + 0)) (T_i0 q2 hq2) ew9) mf_X6_read tw_25 tw_24 ts_X6_read (Or.inl (by decide +kernel)) dX9_behindNeeds_36 rfl (by omega) (Nat.le_refl _) (Nat.le_refl _) rfl (Nat.le_of_ble_eq_true rfl) (fun v u hp => ?_)
          obtain ⟨rfl, rfl⟩ := hp
          show ab_T _ _ _ _ 0 0 39 _ (.int _ :: []) _ _
          refine ab_istore_n (pc2 := 40) (lo2 := [some (va_rf _), none, some (.int _), some (.int _), some (.int _)]) dX9_behindNeeds_39 rfl (by decide) rfl ?_
          refine ab_iinc (pc2 := 43) (v := _ + 1) (lo2 := [some (va_rf _), none, some (.int _), some (.int _), some (.int _)]) dX9_behindNeeds_40 rfl rfl rfl (by decide) rfl ?_
          refine ab_iinc (pc2 := 46) (v := _ + 1) (lo2 := [some (va_rf _), none, some (.int _), some (.int _), some (.int _)]) dX9_behindNeeds_43 rfl rfl rfl (by decide) rfl ?_
          refine ab_goto (tgt := 7) dX9_behindNeeds_46 (by decide) ?_
          exact ab_weak (ih _ _ _ _ _ T_i0 hf) (ab_leS (ab_leN (ab_leS (ab_leS (ab_leS ab_le0)))))
set_option maxHeartbeats 4000000 in
set_option maxRecDepth 100000 in
theorem x_X9_behindNeeds {d : Nat} {i0 : Option Nat} {i1 : Int32} {h : ab_HP} {r : Int32} (T_i0 : ∀ z, i0 = some z → (ab_shp z).1 = 3) (hf : f_X9_behindNeeds i0 i1 h = some r) : ab_T mX9_behindNeeds (d + 2) 0 0 0 0 0 [some (va_rf i0), some (.int i1), none, none, none] [] h (ab_Pi r h) := by
  unfold f_X9_behindNeeds at hf
  refine ab_iload_n (pc2 := 1) dX9_behindNeeds_0 rfl rfl ?_
  refine ab_istore_n (pc2 := 2) (lo2 := [some (va_rf _), some (.int _), some (.int _), none, none]) dX9_behindNeeds_1 rfl (by decide) rfl ?_
  refine ab_iconst (pc2 := 3) (v := 0) dX9_behindNeeds_2 rfl ab_k_iconst_0 ?_
  refine ab_istore_n (pc2 := 4) (lo2 := [some (va_rf _), some (.int _), some (.int _), some (.int _), none]) dX9_behindNeeds_3 rfl (by decide) rfl ?_
  refine ab_iconst (pc2 := 5) (v := 0) dX9_behindNeeds_4 rfl ab_k_iconst_0 ?_
  refine ab_istore (pc2 := 7) (lo2 := [some (va_rf _), some (.int _), some (.int _), some (.int _), some (.int _)]) dX9_behindNeeds_5 rfl (by decide) rfl ?_
  exact ab_weak (x_X9_behindNeeds_l7  _ _ _ _ _ _ T_i0 hf) (ab_leS (ab_leN (ab_leS (ab_leS (ab_leS ab_le0)))))
set_option maxHeartbeats 4000000 in
set_option maxRecDepth 100000 in
theorem m_X9_behindNeeds {d : Nat} {i0 : Option Nat} {i1 : Int32} {h : ab_HP} {r : Int32} (T_i0 : ∀ z, i0 = some z → (ab_shp z).1 = 3) (hf : f_X9_behindNeeds i0 i1 h = some r) : ab_MET mX9_behindNeeds (d + 2) 0 0 [va_rf i0, .int i1] h (ab_Pi r h) := ab_met (by decide +kernel) (by decide +kernel) (by simp [ab_lo, ab_rf1, Value.category]) (by simp [ab_lo0, ab_lo, ab_rf1, Value.category, List.replicate]) (x_X9_behindNeeds T_i0 hf)
set_option maxHeartbeats 4000000 in
set_option maxRecDepth 100000 in
theorem x_X9_behindSign {d : Nat} {i0 : Option Nat} {i1 : Int32} {i2 : Int32} {h : ab_HP} {r : Int32} (T_i0 : ∀ z, i0 = some z → (ab_shp z).1 = 3) (hf : f_X9_behindSign i0 i1 i2 h = some r) : ab_T mX9_behindSign (d + 2) 0 0 0 0 0 [some (va_rf i0), some (.int i1), some (.int i2)] [] h (ab_Pi r h) := by
  unfold f_X9_behindSign at hf
  refine ab_iload_n (pc2 := 1) dX9_behindSign_0 rfl rfl ?_
  refine ab_if_ge (tgt := 6) (pc2 := 4) dX9_behindSign_1 (by decide) rfl hf (fun c1 hf => ?_) (fun c1 hf => ?_)
  · refine ab_aload_n (x := _) (pc2 := 7) dX9_behindSign_6 rfl rfl ?_
    refine ab_iload_n (pc2 := 8) dX9_behindSign_7 rfl rfl ?_
    obtain ⟨q2, hq2, hf⟩ := ab_bind hf
    obtain ⟨w3, ew3, hf⟩ := ab_bind hf
    refine ab_callV (pc2 := 11) (st := []) hq2 (T_i0 q2 hq2) (by decide) (m_X6_read (d := (d + 0)) (T_i0 q2 hq2) ew3) mf_X6_read tw_25 tw_24 ts_X6_read (Or.inl (by decide +kernel)) dX9_behindSign_8 rfl (by omega) (Nat.le_refl _) (Nat.le_refl _) rfl (Nat.le_of_ble_eq_true rfl) (fun v u hp => ?_)
    obtain ⟨rfl, rfl⟩ := hp
    show ab_T _ _ _ _ 0 0 11 _ (.int _ :: []) _ _
    refine ab_iload_n (pc2 := 12) dX9_behindSign_11 rfl rfl ?_
    refine ab_icmp_ne (tgt := 21) (pc2 := 15) dX9_behindSign_12 (by decide) rfl hf (fun c4 hf => ?_) (fun c4 hf => ?_)
    · refine ab_iload_n (pc2 := 22) dX9_behindSign_21 rfl rfl ?_
      obtain ⟨w5, ew5, hf⟩ := ab_bind hf
      refine ab_callS (pc2 := 25) (st := []) (m_X9_wrongAt (d := (d + 1)) ew5) mf_X9_wrongAt tw_28 tw_29 dX9_behindSign_22 rfl (by omega) (Nat.le_refl _) (Nat.le_refl _) rfl (Nat.le_of_ble_eq_true rfl) (fun v u hp => ?_)
      obtain ⟨rfl, rfl⟩ := hp
      show ab_T _ _ _ _ 0 0 25 _ (.int _ :: []) _ _
      cases Option.some.inj hf
      exact ab_retI dX9_behindSign_25 (Or.inl rfl) (Nat.le_refl _) (Nat.le_refl _) ⟨rfl, rfl⟩
    · refine ab_iload_n (pc2 := 16) dX9_behindSign_15 rfl rfl ?_
      refine ab_iconst (pc2 := 17) (v := 1) dX9_behindSign_16 rfl ab_k_iconst_1 ?_
      refine ab_iadd (pc2 := 18) dX9_behindSign_17 rfl ?_
      refine ab_goto (tgt := 25) dX9_behindSign_18 (by decide) ?_
      cases Option.some.inj hf
      exact ab_retI dX9_behindSign_25 (Or.inl rfl) (Nat.le_refl _) (Nat.le_refl _) ⟨rfl, rfl⟩
  · refine ab_iload_n (pc2 := 5) dX9_behindSign_4 rfl rfl ?_
    cases Option.some.inj hf
    exact ab_retI dX9_behindSign_5 (Or.inl rfl) (Nat.le_refl _) (Nat.le_refl _) ⟨rfl, rfl⟩
set_option maxHeartbeats 4000000 in
set_option maxRecDepth 100000 in
theorem m_X9_behindSign {d : Nat} {i0 : Option Nat} {i1 : Int32} {i2 : Int32} {h : ab_HP} {r : Int32} (T_i0 : ∀ z, i0 = some z → (ab_shp z).1 = 3) (hf : f_X9_behindSign i0 i1 i2 h = some r) : ab_MET mX9_behindSign (d + 2) 0 0 [va_rf i0, .int i1, .int i2] h (ab_Pi r h) := ab_met (by decide +kernel) (by decide +kernel) (by simp [ab_lo, ab_rf1, Value.category]) (by simp [ab_lo0, ab_lo, ab_rf1, Value.category, List.replicate]) (x_X9_behindSign T_i0 hf)
set_option maxHeartbeats 4000000 in
set_option maxRecDepth 100000 in
theorem x_X9_behindLetter {d : Nat} {i0 : Option Nat} {i1 : Int32} {h : ab_HP} {r : Int32} (T_i0 : ∀ z, i0 = some z → (ab_shp z).1 = 3) (hf : f_X9_behindLetter i0 i1 h = some r) : ab_T mX9_behindLetter (d + 2) 0 0 0 0 0 [some (va_rf i0), some (.int i1)] [] h (ab_Pi r h) := by
  unfold f_X9_behindLetter at hf
  refine ab_iload_n (pc2 := 1) dX9_behindLetter_0 rfl rfl ?_
  refine ab_if_ge (tgt := 6) (pc2 := 4) dX9_behindLetter_1 (by decide) rfl hf (fun c1 hf => ?_) (fun c1 hf => ?_)
  · refine ab_aload_n (x := _) (pc2 := 7) dX9_behindLetter_6 rfl rfl ?_
    refine ab_iload_n (pc2 := 8) dX9_behindLetter_7 rfl rfl ?_
    obtain ⟨q2, hq2, hf⟩ := ab_bind hf
    obtain ⟨w3, ew3, hf⟩ := ab_bind hf
    refine ab_callV (pc2 := 11) (st := []) hq2 (T_i0 q2 hq2) (by decide) (m_X6_read (d := (d + 0)) (T_i0 q2 hq2) ew3) mf_X6_read tw_25 tw_24 ts_X6_read (Or.inl (by decide +kernel)) dX9_behindLetter_8 rfl (by omega) (Nat.le_refl _) (Nat.le_refl _) rfl (Nat.le_of_ble_eq_true rfl) (fun v u hp => ?_)
    obtain ⟨rfl, rfl⟩ := hp
    show ab_T _ _ _ _ 0 0 11 _ (.int _ :: []) _ _
    obtain ⟨w4, ew4, hf⟩ := ab_bind hf
    refine ab_callS (pc2 := 14) (st := []) (m_X9_isLetter (d := (d + 1)) ew4) mf_X9_isLetter tw_30 tw_31 dX9_behindLetter_11 rfl (by omega) (Nat.le_refl _) (Nat.le_refl _) rfl (Nat.le_of_ble_eq_true rfl) (fun v u hp => ?_)
    obtain ⟨rfl, rfl, z5⟩ := hp
    show ab_T _ _ _ _ 0 0 14 _ (.int _ :: []) _ _
    refine ab_if_eq (tgt := 23) (pc2 := 17) dX9_behindLetter_14 (by decide) rfl hf (fun c6 hf => ?_) (fun c6 hf => ?_)
    · refine ab_iload_n (pc2 := 24) dX9_behindLetter_23 rfl rfl ?_
      obtain ⟨w7, ew7, hf⟩ := ab_bind hf
      refine ab_callS (pc2 := 27) (st := []) (m_X9_wrongAt (d := (d + 1)) ew7) mf_X9_wrongAt tw_28 tw_29 dX9_behindLetter_24 rfl (by omega) (Nat.le_refl _) (Nat.le_refl _) rfl (Nat.le_of_ble_eq_true rfl) (fun v u hp => ?_)
      obtain ⟨rfl, rfl⟩ := hp
      show ab_T _ _ _ _ 0 0 27 _ (.int _ :: []) _ _
      cases Option.some.inj hf
      exact ab_retI dX9_behindLetter_27 (Or.inl rfl) (Nat.le_refl _) (Nat.le_refl _) ⟨rfl, rfl⟩
    · refine ab_iload_n (pc2 := 18) dX9_behindLetter_17 rfl rfl ?_
      refine ab_iconst (pc2 := 19) (v := 1) dX9_behindLetter_18 rfl ab_k_iconst_1 ?_
      refine ab_iadd (pc2 := 20) dX9_behindLetter_19 rfl ?_
      refine ab_goto (tgt := 27) dX9_behindLetter_20 (by decide) ?_
      cases Option.some.inj hf
      exact ab_retI dX9_behindLetter_27 (Or.inl rfl) (Nat.le_refl _) (Nat.le_refl _) ⟨rfl, rfl⟩
  · refine ab_iload_n (pc2 := 5) dX9_behindLetter_4 rfl rfl ?_
    cases Option.some.inj hf
    exact ab_retI dX9_behindLetter_5 (Or.inl rfl) (Nat.le_refl _) (Nat.le_refl _) ⟨rfl, rfl⟩
set_option maxHeartbeats 4000000 in
set_option maxRecDepth 100000 in
theorem m_X9_behindLetter {d : Nat} {i0 : Option Nat} {i1 : Int32} {h : ab_HP} {r : Int32} (T_i0 : ∀ z, i0 = some z → (ab_shp z).1 = 3) (hf : f_X9_behindLetter i0 i1 h = some r) : ab_MET mX9_behindLetter (d + 2) 0 0 [va_rf i0, .int i1] h (ab_Pi r h) := ab_met (by decide +kernel) (by decide +kernel) (by simp [ab_lo, ab_rf1, Value.category]) (by simp [ab_lo0, ab_lo, ab_rf1, Value.category, List.replicate]) (x_X9_behindLetter T_i0 hf)
set_option maxHeartbeats 4000000 in
set_option maxRecDepth 100000 in
theorem x_X9_behindNumber_l25 {d : Nat}  {r : Int32}  : ∀ (n : Nat) (i0 : Option Nat) (i2 : Int32) (i3 : Int32) (i4 : Int32) (h : ab_HP), (∀ z, i0 = some z → (ab_shp z).1 = 3) → f_X9_behindNumber_l25  n i0 i2 i3 i4 h = some r → ab_T mX9_behindNumber (d + 3) 0 0 0 0 25 [some (va_rf i0), none, some (.int i2), some (.int i3), some (.int i4)] [] h (ab_Pi r h) := by
  intro n
  induction n with
  | zero =>
    intro i0 i2 i3 i4 h T_i0 hf
    rw [f_X9_behindNumber_l25] at hf
    cases hf
  | succ n ih =>
    intro i0 i2 i3 i4 h T_i0 hf
    rw [f_X9_behindNumber_l25] at hf
    refine ab_iload (pc2 := 27) dX9_behindNumber_25 rfl rfl ?_
    refine ab_iload_n (pc2 := 28) dX9_behindNumber_27 rfl rfl ?_
    refine ab_icmp_ge (tgt := 51) (pc2 := 31) dX9_behindNumber_28 (by decide) rfl hf (fun c6 hf => ?_) (fun c6 hf => ?_)
    · refine ab_iload_n (pc2 := 52) dX9_behindNumber_51 rfl rfl ?_
      cases Option.some.inj hf
      exact ab_retI dX9_behindNumber_52 (Or.inl rfl) (Nat.le_refl _) (Nat.le_refl _) ⟨rfl, rfl⟩
    · refine ab_aload_n (x := _) (pc2 := 32) dX9_behindNumber_31 rfl rfl ?_
      refine ab_iload_n (pc2 := 33) dX9_behindNumber_32 rfl rfl ?_
      obtain ⟨q7, hq7, hf⟩ := ab_bind hf
      obtain ⟨w8, ew8, hf⟩ := ab_bind hf
      refine ab_callV (pc2 := 36) (st := []) hq7 (T_i0 q7 hq7) (by decide) (m_X6_read (d := (d + 1)) (T_i0 q7 hq7) ew8) mf_X6_read tw_25 tw_24 ts_X6_read (Or.inl (by decide +kernel)) dX9_behindNumber_33 rfl (by omega) (Nat.le_refl _) (Nat.le_refl _) rfl (Nat.le_of_ble_eq_true rfl) (fun v u hp => ?_)
      obtain ⟨rfl, rfl⟩ := hp
      show ab_T _ _ _ _ 0 0 36 _ (.int _ :: []) _ _
      obtain ⟨w9, ew9, hf⟩ := ab_bind hf
      refine ab_callS (pc2 := 39) (st := []) (m_X9_isDigit (d := (d + 2)) ew9) mf_X9_isDigit tw_26 tw_27 dX9_behindNumber_36 rfl (by omega) (Nat.le_refl _) (Nat.le_refl _) rfl (Nat.le_of_ble_eq_true rfl) (fun v u hp => ?_)
      obtain ⟨rfl, rfl, z10⟩ := hp
      show ab_T _ _ _ _ 0 0 39 _ (.int _ :: []) _ _
      refine ab_if_eq (tgt := 51) (pc2 := 42) dX9_behindNumber_39 (by decide) rfl hf (fun c11 hf => ?_) (fun c11 hf => ?_)
      · refine ab_iload_n (pc2 := 52) dX9_behindNumber_51 rfl rfl ?_
        cases Option.some.inj hf
        exact ab_retI dX9_behindNumber_52 (Or.inl rfl) (Nat.le_refl _) (Nat.le_refl _) ⟨rfl, rfl⟩
      · refine ab_iinc (pc2 := 45) (v := _ + 1) (lo2 := [some (va_rf _), none, some (.int _), some (.int _), some (.int _)]) dX9_behindNumber_42 rfl rfl rfl (by decide) rfl ?_
        refine ab_iinc (pc2 := 48) (v := _ + 1) (lo2 := [some (va_rf _), none, some (.int _), some (.int _), some (.int _)]) dX9_behindNumber_45 rfl rfl rfl (by decide) rfl ?_
        refine ab_goto (tgt := 25) dX9_behindNumber_48 (by decide) ?_
        exact ab_weak (ih _ _ _ _ _ T_i0 hf) (ab_leS (ab_leN (ab_leS (ab_leS (ab_leS ab_le0)))))
set_option maxHeartbeats 4000000 in
set_option maxRecDepth 100000 in
theorem x_X9_behindNumber {d : Nat} {i0 : Option Nat} {i1 : Int32} {i2 : Int32} {h : ab_HP} {r : Int32} (T_i0 : ∀ z, i0 = some z → (ab_shp z).1 = 3) (hf : f_X9_behindNumber i0 i1 i2 h = some r) : ab_T mX9_behindNumber (d + 3) 0 0 0 0 0 [some (va_rf i0), some (.int i1), some (.int i2), none, none] [] h (ab_Pi r h) := by
  unfold f_X9_behindNumber at hf
  refine ab_aload_n (x := _) (pc2 := 1) dX9_behindNumber_0 rfl rfl ?_
  refine ab_iload_n (pc2 := 2) dX9_behindNumber_1 rfl rfl ?_
  obtain ⟨w1, ew1, hf⟩ := ab_bind hf
  refine ab_callS (pc2 := 5) (st := []) (m_X9_behindDigit (d := (d + 0)) T_i0 ew1) mf_X9_behindDigit tw_32 tw_33 dX9_behindNumber_2 rfl (by omega) (Nat.le_refl _) (Nat.le_refl _) rfl (Nat.le_of_ble_eq_true rfl) (fun v u hp => ?_)
  obtain ⟨rfl, rfl⟩ := hp
  show ab_T _ _ _ _ 0 0 5 _ (.int _ :: []) _ _
  refine ab_istore_n (pc2 := 6) (lo2 := [some (va_rf _), some (.int _), some (.int _), some (.int _), none]) dX9_behindNumber_5 rfl (by decide) rfl ?_
  refine ab_iload_n (pc2 := 7) dX9_behindNumber_6 rfl rfl ?_
  refine ab_if_lt (tgt := 20) (pc2 := 10) dX9_behindNumber_7 (by decide) rfl hf (fun c2 hf => ?_) (fun c2 hf => ?_)
  · refine ab_iload_n (pc2 := 21) dX9_behindNumber_20 rfl rfl ?_
    cases Option.some.inj hf
    exact ab_retI dX9_behindNumber_21 (Or.inl rfl) (Nat.le_refl _) (Nat.le_refl _) ⟨rfl, rfl⟩
  · refine ab_aload_n (x := _) (pc2 := 11) dX9_behindNumber_10 rfl rfl ?_
    refine ab_iload_n (pc2 := 12) dX9_behindNumber_11 rfl rfl ?_
    obtain ⟨q3, hq3, hf⟩ := ab_bind hf
    obtain ⟨w4, ew4, hf⟩ := ab_bind hf
    refine ab_callV (pc2 := 15) (st := []) hq3 (T_i0 q3 hq3) (by decide) (m_X6_read (d := (d + 1)) (T_i0 q3 hq3) ew4) mf_X6_read tw_25 tw_24 ts_X6_read (Or.inl (by decide +kernel)) dX9_behindNumber_12 rfl (by omega) (Nat.le_refl _) (Nat.le_refl _) rfl (Nat.le_of_ble_eq_true rfl) (fun v u hp => ?_)
    obtain ⟨rfl, rfl⟩ := hp
    show ab_T _ _ _ _ 0 0 15 _ (.int _ :: []) _ _
    refine ab_bipush (pc2 := 17) (v := 48) dX9_behindNumber_15 rfl ab_k_bipush_48 ?_
    refine ab_icmp_ne (tgt := 22) (pc2 := 20) dX9_behindNumber_17 (by decide) rfl hf (fun c5 hf => ?_) (fun c5 hf => ?_)
    · refine ab_iconst (pc2 := 23) (v := 1) dX9_behindNumber_22 rfl ab_k_iconst_1 ?_
      refine ab_istore (pc2 := 25) (lo2 := [some (va_rf _), some (.int _), some (.int _), some (.int _), some (.int _)]) dX9_behindNumber_23 rfl (by decide) rfl ?_
      exact ab_weak (x_X9_behindNumber_l25  _ _ _ _ _ _ T_i0 hf) (ab_leS (ab_leN (ab_leS (ab_leS (ab_leS ab_le0)))))
    · refine ab_iload_n (pc2 := 21) dX9_behindNumber_20 rfl rfl ?_
      cases Option.some.inj hf
      exact ab_retI dX9_behindNumber_21 (Or.inl rfl) (Nat.le_refl _) (Nat.le_refl _) ⟨rfl, rfl⟩
set_option maxHeartbeats 4000000 in
set_option maxRecDepth 100000 in
theorem m_X9_behindNumber {d : Nat} {i0 : Option Nat} {i1 : Int32} {i2 : Int32} {h : ab_HP} {r : Int32} (T_i0 : ∀ z, i0 = some z → (ab_shp z).1 = 3) (hf : f_X9_behindNumber i0 i1 i2 h = some r) : ab_MET mX9_behindNumber (d + 3) 0 0 [va_rf i0, .int i1, .int i2] h (ab_Pi r h) := ab_met (by decide +kernel) (by decide +kernel) (by simp [ab_lo, ab_rf1, Value.category]) (by simp [ab_lo0, ab_lo, ab_rf1, Value.category, List.replicate]) (x_X9_behindNumber T_i0 hf)
set_option maxHeartbeats 4000000 in
set_option maxRecDepth 100000 in
theorem x_X9_behindDeed {d : Nat} {i0 : Option Nat} {i1 : Int32} {h : ab_HP} {r : Int32} (T_i0 : ∀ z, i0 = some z → (ab_shp z).1 = 3) (hf : f_X9_behindDeed i0 i1 h = some r) : ab_T mX9_behindDeed (d + 4) 0 0 0 0 0 [some (va_rf i0), some (.int i1), none] [] h (ab_Pi r h) := by
  unfold f_X9_behindDeed at hf
  refine ab_aload_n (x := _) (pc2 := 1) dX9_behindDeed_0 rfl rfl ?_
  refine ab_aload_n (x := _) (pc2 := 2) dX9_behindDeed_1 rfl rfl ?_
  refine ab_iload_n (pc2 := 3) dX9_behindDeed_2 rfl rfl ?_
  obtain ⟨w1, ew1, hf⟩ := ab_bind hf
  refine ab_callS (pc2 := 6) (st := [_]) (m_X9_behindDigit (d := (d + 1)) T_i0 ew1) mf_X9_behindDigit tw_32 tw_33 dX9_behindDeed_3 rfl (by omega) (Nat.le_refl _) (Nat.le_refl _) rfl (Nat.le_of_ble_eq_true rfl) (fun v u hp => ?_)
  obtain ⟨rfl, rfl⟩ := hp
  show ab_T _ _ _ _ 0 0 6 _ (.int _ :: [_]) _ _
  obtain ⟨w2, ew2, hf⟩ := ab_bind hf
  refine ab_callS (pc2 := 9) (st := []) (m_X9_behindNeeds (d := (d + 1)) T_i0 ew2) mf_X9_behindNeeds tw_34 tw_35 dX9_behindDeed_6 rfl (by omega) (Nat.le_refl _) (Nat.le_refl _) rfl (Nat.le_of_ble_eq_true rfl) (fun v u hp => ?_)
  obtain ⟨rfl, rfl⟩ := hp
  show ab_T _ _ _ _ 0 0 9 _ (.int _ :: []) _ _
  refine ab_istore_n (pc2 := 10) (lo2 := [some (va_rf _), some (.int _), some (.int _)]) dX9_behindDeed_9 rfl (by decide) rfl ?_
  refine ab_aload_n (x := _) (pc2 := 11) dX9_behindDeed_10 rfl rfl ?_
  refine ab_aload_n (x := _) (pc2 := 12) dX9_behindDeed_11 rfl rfl ?_
  refine ab_iload_n (pc2 := 13) dX9_behindDeed_12 rfl rfl ?_
  refine ab_bipush (pc2 := 15) (v := 32) dX9_behindDeed_13 rfl ab_k_bipush_32 ?_
  obtain ⟨w3, ew3, hf⟩ := ab_bind hf
  refine ab_callS (pc2 := 18) (st := [_]) (m_X9_behindSign (d := (d + 1)) T_i0 ew3) mf_X9_behindSign tw_36 tw_37 dX9_behindDeed_15 rfl (by omega) (Nat.le_refl _) (Nat.le_refl _) rfl (Nat.le_of_ble_eq_true rfl) (fun v u hp => ?_)
  obtain ⟨rfl, rfl⟩ := hp
  show ab_T _ _ _ _ 0 0 18 _ (.int _ :: [_]) _ _
  obtain ⟨w4, ew4, hf⟩ := ab_bind hf
  refine ab_callS (pc2 := 21) (st := []) (m_X9_behindLetter (d := (d + 1)) T_i0 ew4) mf_X9_behindLetter tw_38 tw_39 dX9_behindDeed_18 rfl (by omega) (Nat.le_refl _) (Nat.le_refl _) rfl (Nat.le_of_ble_eq_true rfl) (fun v u hp => ?_)
  obtain ⟨rfl, rfl⟩ := hp
  show ab_T _ _ _ _ 0 0 21 _ (.int _ :: []) _ _
  refine ab_istore_n (pc2 := 22) (lo2 := [some (va_rf _), some (.int _), some (.int _)]) dX9_behindDeed_21 rfl (by decide) rfl ?_
  refine ab_aload_n (x := _) (pc2 := 23) dX9_behindDeed_22 rfl rfl ?_
  refine ab_aload_n (x := _) (pc2 := 24) dX9_behindDeed_23 rfl rfl ?_
  refine ab_iload_n (pc2 := 25) dX9_behindDeed_24 rfl rfl ?_
  refine ab_iconst (pc2 := 26) (v := 2) dX9_behindDeed_25 rfl ab_k_iconst_2 ?_
  obtain ⟨w5, ew5, hf⟩ := ab_bind hf
  refine ab_callS (pc2 := 29) (st := [_]) (m_X9_behindNumber (d := (d + 0)) T_i0 ew5) mf_X9_behindNumber tw_40 tw_41 dX9_behindDeed_26 rfl (by omega) (Nat.le_refl _) (Nat.le_refl _) rfl (Nat.le_of_ble_eq_true rfl) (fun v u hp => ?_)
  obtain ⟨rfl, rfl⟩ := hp
  show ab_T _ _ _ _ 0 0 29 _ (.int _ :: [_]) _ _
  refine ab_bipush (pc2 := 31) (v := 32) dX9_behindDeed_29 rfl ab_k_bipush_32 ?_
  obtain ⟨w6, ew6, hf⟩ := ab_bind hf
  refine ab_callS (pc2 := 34) (st := []) (m_X9_behindSign (d := (d + 1)) T_i0 ew6) mf_X9_behindSign tw_36 tw_37 dX9_behindDeed_31 rfl (by omega) (Nat.le_refl _) (Nat.le_refl _) rfl (Nat.le_of_ble_eq_true rfl) (fun v u hp => ?_)
  obtain ⟨rfl, rfl⟩ := hp
  show ab_T _ _ _ _ 0 0 34 _ (.int _ :: []) _ _
  refine ab_istore_n (pc2 := 35) (lo2 := [some (va_rf _), some (.int _), some (.int _)]) dX9_behindDeed_34 rfl (by decide) rfl ?_
  refine ab_aload_n (x := _) (pc2 := 36) dX9_behindDeed_35 rfl rfl ?_
  refine ab_iload_n (pc2 := 37) dX9_behindDeed_36 rfl rfl ?_
  obtain ⟨w7, ew7, hf⟩ := ab_bind hf
  refine ab_callS (pc2 := 40) (st := []) (m_X9_behindDigit (d := (d + 1)) T_i0 ew7) mf_X9_behindDigit tw_32 tw_33 dX9_behindDeed_37 rfl (by omega) (Nat.le_refl _) (Nat.le_refl _) rfl (Nat.le_of_ble_eq_true rfl) (fun v u hp => ?_)
  obtain ⟨rfl, rfl⟩ := hp
  show ab_T _ _ _ _ 0 0 40 _ (.int _ :: []) _ _
  cases Option.some.inj hf
  exact ab_retI dX9_behindDeed_40 (Or.inl rfl) (Nat.le_refl _) (Nat.le_refl _) ⟨rfl, rfl⟩
set_option maxHeartbeats 4000000 in
set_option maxRecDepth 100000 in
theorem m_X9_behindDeed {d : Nat} {i0 : Option Nat} {i1 : Int32} {h : ab_HP} {r : Int32} (T_i0 : ∀ z, i0 = some z → (ab_shp z).1 = 3) (hf : f_X9_behindDeed i0 i1 h = some r) : ab_MET mX9_behindDeed (d + 4) 0 0 [va_rf i0, .int i1] h (ab_Pi r h) := ab_met (by decide +kernel) (by decide +kernel) (by simp [ab_lo, ab_rf1, Value.category]) (by simp [ab_lo0, ab_lo, ab_rf1, Value.category, List.replicate]) (x_X9_behindDeed T_i0 hf)
set_option maxHeartbeats 4000000 in
set_option maxRecDepth 100000 in
theorem x_X9_behindNail_b35 {d : Nat} {i0 : Option Nat} {i2 : Int32} {h : ab_HP} {r : Int32} (T_i0 : ∀ z, i0 = some z → (ab_shp z).1 = 3) (hf : f_X9_behindNail_b35 i0 i2 h = some r) : ab_T mX9_behindNail (d + 4) 0 0 0 0 35 [some (va_rf i0), none, some (.int i2)] [] h (ab_Pi r h) := by
  unfold f_X9_behindNail_b35 at hf
  refine ab_aload_n (x := _) (pc2 := 36) dX9_behindNail_35 rfl rfl ?_
  refine ab_aload_n (x := _) (pc2 := 37) dX9_behindNail_36 rfl rfl ?_
  refine ab_iload_n (pc2 := 38) dX9_behindNail_37 rfl rfl ?_
  refine ab_bipush (pc2 := 40) (v := 43) dX9_behindNail_38 rfl ab_k_bipush_43 ?_
  obtain ⟨w8, ew8, hf⟩ := ab_bind hf
  refine ab_callS (pc2 := 43) (st := [_]) (m_X9_behindSign (d := (d + 1)) T_i0 ew8) mf_X9_behindSign tw_36 tw_37 dX9_behindNail_40 rfl (by omega) (Nat.le_refl _) (Nat.le_refl _) rfl (Nat.le_of_ble_eq_true rfl) (fun v u hp => ?_)
  obtain ⟨rfl, rfl⟩ := hp
  show ab_T _ _ _ _ 0 0 43 _ (.int _ :: [_]) _ _
  obtain ⟨w9, ew9, hf⟩ := ab_bind hf
  refine ab_callS (pc2 := 46) (st := []) (m_X9_behindDigit (d := (d + 1)) T_i0 ew9) mf_X9_behindDigit tw_32 tw_33 dX9_behindNail_43 rfl (by omega) (Nat.le_refl _) (Nat.le_refl _) rfl (Nat.le_of_ble_eq_true rfl) (fun v u hp => ?_)
  obtain ⟨rfl, rfl⟩ := hp
  show ab_T _ _ _ _ 0 0 46 _ (.int _ :: []) _ _
  cases Option.some.inj hf
  exact ab_retI dX9_behindNail_46 (Or.inl rfl) (Nat.le_refl _) (Nat.le_refl _) ⟨rfl, rfl⟩
set_option maxHeartbeats 4000000 in
set_option maxRecDepth 100000 in
theorem x_X9_behindNail {d : Nat} {i0 : Option Nat} {i1 : Int32} {h : ab_HP} {r : Int32} (T_i0 : ∀ z, i0 = some z → (ab_shp z).1 = 3) (hf : f_X9_behindNail i0 i1 h = some r) : ab_T mX9_behindNail (d + 4) 0 0 0 0 0 [some (va_rf i0), some (.int i1), none] [] h (ab_Pi r h) := by
  unfold f_X9_behindNail at hf
  refine ab_aload_n (x := _) (pc2 := 1) dX9_behindNail_0 rfl rfl ?_
  refine ab_aload_n (x := _) (pc2 := 2) dX9_behindNail_1 rfl rfl ?_
  refine ab_iload_n (pc2 := 3) dX9_behindNail_2 rfl rfl ?_
  refine ab_iconst (pc2 := 4) (v := 2) dX9_behindNail_3 rfl ab_k_iconst_2 ?_
  obtain ⟨w1, ew1, hf⟩ := ab_bind hf
  refine ab_callS (pc2 := 7) (st := [_]) (m_X9_behindNumber (d := (d + 0)) T_i0 ew1) mf_X9_behindNumber tw_40 tw_41 dX9_behindNail_4 rfl (by omega) (Nat.le_refl _) (Nat.le_refl _) rfl (Nat.le_of_ble_eq_true rfl) (fun v u hp => ?_)
  obtain ⟨rfl, rfl⟩ := hp
  show ab_T _ _ _ _ 0 0 7 _ (.int _ :: [_]) _ _
  refine ab_bipush (pc2 := 9) (v := 32) dX9_behindNail_7 rfl ab_k_bipush_32 ?_
  obtain ⟨w2, ew2, hf⟩ := ab_bind hf
  refine ab_callS (pc2 := 12) (st := []) (m_X9_behindSign (d := (d + 1)) T_i0 ew2) mf_X9_behindSign tw_36 tw_37 dX9_behindNail_9 rfl (by omega) (Nat.le_refl _) (Nat.le_refl _) rfl (Nat.le_of_ble_eq_true rfl) (fun v u hp => ?_)
  obtain ⟨rfl, rfl⟩ := hp
  show ab_T _ _ _ _ 0 0 12 _ (.int _ :: []) _ _
  refine ab_istore_n (pc2 := 13) (lo2 := [some (va_rf _), some (.int _), some (.int _)]) dX9_behindNail_12 rfl (by decide) rfl ?_
  refine ab_iload_n (pc2 := 14) dX9_behindNail_13 rfl rfl ?_
  refine ab_if_lt (tgt := 35) (pc2 := 17) dX9_behindNail_14 (by decide) rfl hf (fun c3 hf => ?_) (fun c3 hf => ?_)
  · exact ab_weak (x_X9_behindNail_b35 T_i0 hf) (ab_leS (ab_leN (ab_leS ab_le0)))
  · refine ab_aload_n (x := _) (pc2 := 18) dX9_behindNail_17 rfl rfl ?_
    refine ab_iload_n (pc2 := 19) dX9_behindNail_18 rfl rfl ?_
    obtain ⟨q4, hq4, hf⟩ := ab_bind hf
    obtain ⟨w5, ew5, hf⟩ := ab_bind hf
    refine ab_callV (pc2 := 22) (st := []) hq4 (T_i0 q4 hq4) (by decide) (m_X6_read (d := (d + 2)) (T_i0 q4 hq4) ew5) mf_X6_read tw_25 tw_24 ts_X6_read (Or.inl (by decide +kernel)) dX9_behindNail_19 rfl (by omega) (Nat.le_refl _) (Nat.le_refl _) rfl (Nat.le_of_ble_eq_true rfl) (fun v u hp => ?_)
    obtain ⟨rfl, rfl⟩ := hp
    show ab_T _ _ _ _ 0 0 22 _ (.int _ :: []) _ _
    refine ab_bipush (pc2 := 24) (v := 45) dX9_behindNail_22 rfl ab_k_bipush_45 ?_
    refine ab_icmp_ne (tgt := 35) (pc2 := 27) dX9_behindNail_24 (by decide) rfl hf (fun c6 hf => ?_) (fun c6 hf => ?_)
    · exact ab_weak (x_X9_behindNail_b35 T_i0 hf) (ab_leS (ab_leN (ab_leS ab_le0)))
    · refine ab_aload_n (x := _) (pc2 := 28) dX9_behindNail_27 rfl rfl ?_
      refine ab_iload_n (pc2 := 29) dX9_behindNail_28 rfl rfl ?_
      refine ab_iconst (pc2 := 30) (v := 1) dX9_behindNail_29 rfl ab_k_iconst_1 ?_
      refine ab_iadd (pc2 := 31) dX9_behindNail_30 rfl ?_
      obtain ⟨w7, ew7, hf⟩ := ab_bind hf
      refine ab_callS (pc2 := 34) (st := []) (m_X9_behindDigit (d := (d + 1)) T_i0 ew7) mf_X9_behindDigit tw_32 tw_33 dX9_behindNail_31 rfl (by omega) (Nat.le_refl _) (Nat.le_refl _) rfl (Nat.le_of_ble_eq_true rfl) (fun v u hp => ?_)
      obtain ⟨rfl, rfl⟩ := hp
      show ab_T _ _ _ _ 0 0 34 _ (.int _ :: []) _ _
      cases Option.some.inj hf
      exact ab_retI dX9_behindNail_34 (Or.inl rfl) (Nat.le_refl _) (Nat.le_refl _) ⟨rfl, rfl⟩
set_option maxHeartbeats 4000000 in
set_option maxRecDepth 100000 in
theorem m_X9_behindNail {d : Nat} {i0 : Option Nat} {i1 : Int32} {h : ab_HP} {r : Int32} (T_i0 : ∀ z, i0 = some z → (ab_shp z).1 = 3) (hf : f_X9_behindNail i0 i1 h = some r) : ab_MET mX9_behindNail (d + 4) 0 0 [va_rf i0, .int i1] h (ab_Pi r h) := ab_met (by decide +kernel) (by decide +kernel) (by simp [ab_lo, ab_rf1, Value.category]) (by simp [ab_lo0, ab_lo, ab_rf1, Value.category, List.replicate]) (x_X9_behindNail T_i0 hf)
set_option maxHeartbeats 4000000 in
set_option maxRecDepth 100000 in
theorem x_X9_behindStatement_b129 {d : Nat} {i0 : Option Nat} {i2 : Int32} {h : ab_HP} {r : Int32} (T_i0 : ∀ z, i0 = some z → (ab_shp z).1 = 3) (hf : f_X9_behindStatement_b129 i0 i2 h = some r) : ab_T mX9_behindStatement (d + 5) 0 0 0 0 129 [some (va_rf i0), none, some (.int i2)] [] h (ab_Pi r h) := by
  unfold f_X9_behindStatement_b129 at hf
  refine ab_aload_n (x := _) (pc2 := 130) dX9_behindStatement_129 rfl rfl ?_
  refine ab_iload_n (pc2 := 131) dX9_behindStatement_130 rfl rfl ?_
  refine ab_bipush (pc2 := 133) (v := 59) dX9_behindStatement_131 rfl ab_k_bipush_59 ?_
  obtain ⟨w13, ew13, hf⟩ := ab_bind hf
  refine ab_callS (pc2 := 136) (st := []) (m_X9_behindSign (d := (d + 2)) T_i0 ew13) mf_X9_behindSign tw_36 tw_37 dX9_behindStatement_133 rfl (by omega) (Nat.le_refl _) (Nat.le_refl _) rfl (Nat.le_of_ble_eq_true rfl) (fun v u hp => ?_)
  obtain ⟨rfl, rfl⟩ := hp
  show ab_T _ _ _ _ 0 0 136 _ (.int _ :: []) _ _
  cases Option.some.inj hf
  exact ab_retI dX9_behindStatement_136 (Or.inl rfl) (Nat.le_refl _) (Nat.le_refl _) ⟨rfl, rfl⟩
set_option maxHeartbeats 4000000 in
set_option maxRecDepth 100000 in
theorem x_X9_behindStatement_b124 {d : Nat} {i1 : Int32} {h : ab_HP} {r : Int32}  (hf : f_X9_behindStatement_b124 i1 h = some r) : ab_T mX9_behindStatement (d + 5) 0 0 0 0 124 [none, some (.int i1), none] [] h (ab_Pi r h) := by
  unfold f_X9_behindStatement_b124 at hf
  refine ab_iload_n (pc2 := 125) dX9_behindStatement_124 rfl rfl ?_
  obtain ⟨w14, ew14, hf⟩ := ab_bind hf
  refine ab_callS (pc2 := 128) (st := []) (m_X9_wrongAt (d := (d + 4)) ew14) mf_X9_wrongAt tw_28 tw_29 dX9_behindStatement_125 rfl (by omega) (Nat.le_refl _) (Nat.le_refl _) rfl (Nat.le_of_ble_eq_true rfl) (fun v u hp => ?_)
  obtain ⟨rfl, rfl⟩ := hp
  show ab_T _ _ _ _ 0 0 128 _ (.int _ :: []) _ _
  cases Option.some.inj hf
  exact ab_retI dX9_behindStatement_128 (Or.inl rfl) (Nat.le_refl _) (Nat.le_refl _) ⟨rfl, rfl⟩
set_option maxHeartbeats 4000000 in
set_option maxRecDepth 100000 in
theorem x_X9_behindStatement {d : Nat} {i0 : Option Nat} {i1 : Int32} {h : ab_HP} {r : Int32} (T_i0 : ∀ z, i0 = some z → (ab_shp z).1 = 3) (hf : f_X9_behindStatement i0 i1 h = some r) : ab_T mX9_behindStatement (d + 5) 0 0 0 0 0 [some (va_rf i0), some (.int i1), none] [] h (ab_Pi r h) := by
  unfold f_X9_behindStatement at hf
  refine ab_aload_n (x := _) (pc2 := 1) dX9_behindStatement_0 rfl rfl ?_
  refine ab_iload_n (pc2 := 2) dX9_behindStatement_1 rfl rfl ?_
  obtain ⟨q1, hq1, hf⟩ := ab_bind hf
  obtain ⟨w2, ew2, hf⟩ := ab_bind hf
  refine ab_callV (pc2 := 5) (st := []) hq1 (T_i0 q1 hq1) (by decide) (m_X6_read (d := (d + 3)) (T_i0 q1 hq1) ew2) mf_X6_read tw_25 tw_24 ts_X6_read (Or.inl (by decide +kernel)) dX9_behindStatement_2 rfl (by omega) (Nat.le_refl _) (Nat.le_refl _) rfl (Nat.le_of_ble_eq_true rfl) (fun v u hp => ?_)
  obtain ⟨rfl, rfl⟩ := hp
  show ab_T _ _ _ _ 0 0 5 _ (.int _ :: []) _ _
  rcases ab_cas hf with ⟨s3, hf⟩ | ⟨s3, hf⟩
  · refine ab_tswK (tgt := 90) dX9_behindStatement_5 s3 (by decide) (by decide) (by decide +kernel) (by decide) ?_
    refine ab_aload_n (x := _) (pc2 := 91) dX9_behindStatement_90 rfl rfl ?_
    refine ab_iload_n (pc2 := 92) dX9_behindStatement_91 rfl rfl ?_
    refine ab_iconst (pc2 := 93) (v := 1) dX9_behindStatement_92 rfl ab_k_iconst_1 ?_
    refine ab_iadd (pc2 := 94) dX9_behindStatement_93 rfl ?_
    refine ab_iconst (pc2 := 95) (v := 4) dX9_behindStatement_94 rfl ab_k_iconst_4 ?_
    obtain ⟨w4, ew4, hf⟩ := ab_bind hf
    refine ab_callS (pc2 := 98) (st := []) (m_X9_behindNumber (d := (d + 1)) T_i0 ew4) mf_X9_behindNumber tw_40 tw_41 dX9_behindStatement_95 rfl (by omega) (Nat.le_refl _) (Nat.le_refl _) rfl (Nat.le_of_ble_eq_true rfl) (fun v u hp => ?_)
    obtain ⟨rfl, rfl⟩ := hp
    show ab_T _ _ _ _ 0 0 98 _ (.int _ :: []) _ _
    refine ab_istore_n (pc2 := 99) (lo2 := [some (va_rf _), some (.int _), some (.int _)]) dX9_behindStatement_98 rfl (by decide) rfl ?_
    refine ab_goto (tgt := 129) dX9_behindStatement_99 (by decide) ?_
    exact ab_weak (x_X9_behindStatement_b129 T_i0 hf) (ab_leS (ab_leN (ab_leS ab_le0)))
  rcases ab_cas hf with ⟨s5, hf⟩ | ⟨s5, hf⟩
  · refine ab_tswK (tgt := 68) dX9_behindStatement_5 s5 (by decide) (by decide) (by decide +kernel) (by decide) ?_
    refine ab_aload_n (x := _) (pc2 := 69) dX9_behindStatement_68 rfl rfl ?_
    refine ab_iload_n (pc2 := 70) dX9_behindStatement_69 rfl rfl ?_
    refine ab_iconst (pc2 := 71) (v := 1) dX9_behindStatement_70 rfl ab_k_iconst_1 ?_
    refine ab_iadd (pc2 := 72) dX9_behindStatement_71 rfl ?_
    obtain ⟨w6, ew6, hf⟩ := ab_bind hf
    refine ab_callS (pc2 := 75) (st := []) (m_X9_behindDeed (d := (d + 0)) T_i0 ew6) mf_X9_behindDeed tw_42 tw_43 dX9_behindStatement_72 rfl (by omega) (Nat.le_refl _) (Nat.le_refl _) rfl (Nat.le_of_ble_eq_true rfl) (fun v u hp => ?_)
    obtain ⟨rfl, rfl⟩ := hp
    show ab_T _ _ _ _ 0 0 75 _ (.int _ :: []) _ _
    refine ab_istore_n (pc2 := 76) (lo2 := [some (va_rf _), some (.int _), some (.int _)]) dX9_behindStatement_75 rfl (by decide) rfl ?_
    refine ab_goto (tgt := 129) dX9_behindStatement_76 (by decide) ?_
    exact ab_weak (x_X9_behindStatement_b129 T_i0 hf) (ab_leS (ab_leN (ab_leS ab_le0)))
  rcases ab_cas hf with ⟨s7, hf⟩ | ⟨s7, hf⟩
  · refine ab_tswK (tgt := 113) dX9_behindStatement_5 s7 (by decide) (by decide) (by decide +kernel) (by decide) ?_
    refine ab_aload_n (x := _) (pc2 := 114) dX9_behindStatement_113 rfl rfl ?_
    refine ab_iload_n (pc2 := 115) dX9_behindStatement_114 rfl rfl ?_
    refine ab_iconst (pc2 := 116) (v := 1) dX9_behindStatement_115 rfl ab_k_iconst_1 ?_
    refine ab_iadd (pc2 := 117) dX9_behindStatement_116 rfl ?_
    obtain ⟨w8, ew8, hf⟩ := ab_bind hf
    refine ab_callS (pc2 := 120) (st := []) (m_X9_behindDigit (d := (d + 2)) T_i0 ew8) mf_X9_behindDigit tw_32 tw_33 dX9_behindStatement_117 rfl (by omega) (Nat.le_refl _) (Nat.le_refl _) rfl (Nat.le_of_ble_eq_true rfl) (fun v u hp => ?_)
    obtain ⟨rfl, rfl⟩ := hp
    show ab_T _ _ _ _ 0 0 120 _ (.int _ :: []) _ _
    refine ab_istore_n (pc2 := 121) (lo2 := [some (va_rf _), some (.int _), some (.int _)]) dX9_behindStatement_120 rfl (by decide) rfl ?_
    refine ab_goto (tgt := 129) dX9_behindStatement_121 (by decide) ?_
    exact ab_weak (x_X9_behindStatement_b129 T_i0 hf) (ab_leS (ab_leN (ab_leS ab_le0)))
  rcases ab_cas hf with ⟨s9, hf⟩ | ⟨s9, hf⟩
  · refine ab_tswK (tgt := 79) dX9_behindStatement_5 s9 (by decide) (by decide) (by decide +kernel) (by decide) ?_
    refine ab_aload_n (x := _) (pc2 := 80) dX9_behindStatement_79 rfl rfl ?_
    refine ab_iload_n (pc2 := 81) dX9_behindStatement_80 rfl rfl ?_
    refine ab_iconst (pc2 := 82) (v := 1) dX9_behindStatement_81 rfl ab_k_iconst_1 ?_
    refine ab_iadd (pc2 := 83) dX9_behindStatement_82 rfl ?_
    obtain ⟨w10, ew10, hf⟩ := ab_bind hf
    refine ab_callS (pc2 := 86) (st := []) (m_X9_behindLetter (d := (d + 2)) T_i0 ew10) mf_X9_behindLetter tw_38 tw_39 dX9_behindStatement_83 rfl (by omega) (Nat.le_refl _) (Nat.le_refl _) rfl (Nat.le_of_ble_eq_true rfl) (fun v u hp => ?_)
    obtain ⟨rfl, rfl⟩ := hp
    show ab_T _ _ _ _ 0 0 86 _ (.int _ :: []) _ _
    refine ab_istore_n (pc2 := 87) (lo2 := [some (va_rf _), some (.int _), some (.int _)]) dX9_behindStatement_86 rfl (by decide) rfl ?_
    refine ab_goto (tgt := 129) dX9_behindStatement_87 (by decide) ?_
    exact ab_weak (x_X9_behindStatement_b129 T_i0 hf) (ab_leS (ab_leN (ab_leS ab_le0)))
  rcases ab_cas hf with ⟨s11, hf⟩ | ⟨s11, hf⟩
  · refine ab_tswK (tgt := 102) dX9_behindStatement_5 s11 (by decide) (by decide) (by decide +kernel) (by decide) ?_
    refine ab_aload_n (x := _) (pc2 := 103) dX9_behindStatement_102 rfl rfl ?_
    refine ab_iload_n (pc2 := 104) dX9_behindStatement_103 rfl rfl ?_
    refine ab_iconst (pc2 := 105) (v := 1) dX9_behindStatement_104 rfl ab_k_iconst_1 ?_
    refine ab_iadd (pc2 := 106) dX9_behindStatement_105 rfl ?_
    obtain ⟨w12, ew12, hf⟩ := ab_bind hf
    refine ab_callS (pc2 := 109) (st := []) (m_X9_behindNail (d := (d + 0)) T_i0 ew12) mf_X9_behindNail tw_44 tw_45 dX9_behindStatement_106 rfl (by omega) (Nat.le_refl _) (Nat.le_refl _) rfl (Nat.le_of_ble_eq_true rfl) (fun v u hp => ?_)
    obtain ⟨rfl, rfl⟩ := hp
    show ab_T _ _ _ _ 0 0 109 _ (.int _ :: []) _ _
    refine ab_istore_n (pc2 := 110) (lo2 := [some (va_rf _), some (.int _), some (.int _)]) dX9_behindStatement_109 rfl (by decide) rfl ?_
    refine ab_goto (tgt := 129) dX9_behindStatement_110 (by decide) ?_
    exact ab_weak (x_X9_behindStatement_b129 T_i0 hf) (ab_leS (ab_leN (ab_leS ab_le0)))
  have s3n := lv_neT s3 (by decide : (99 : Int32).toInt = 99)
  have s5n := lv_neT s5 (by decide : (100 : Int32).toInt = 100)
  have s7n := lv_neT s7 (by decide : (108 : Int32).toInt = 108)
  have s9n := lv_neT s9 (by decide : (109 : Int32).toInt = 109)
  have s11n := lv_neT s11 (by decide : (110 : Int32).toInt = 110)
  refine ab_tswD (tgt := 124) dX9_behindStatement_5 (by decide) (fun j hj e => by
    have hj : j < 12 := hj
    rcases (by omega : j = 0 ∨ j = 1 ∨ j = 2 ∨ j = 3 ∨ j = 4 ∨ j = 5 ∨ j = 6 ∨ j = 7 ∨ j = 8 ∨ j = 9 ∨ j = 10 ∨ j = 11) with rfl | rfl | rfl | rfl | rfl | rfl | rfl | rfl | rfl | rfl | rfl | rfl
    · exact absurd e (by omega)
    · exact absurd e (by omega)
    · rfl
    · rfl
    · rfl
    · rfl
    · rfl
    · rfl
    · rfl
    · exact absurd e (by omega)
    · exact absurd e (by omega)
    · exact absurd e (by omega)) (by decide) ?_
  exact ab_weak (x_X9_behindStatement_b124 hf) (ab_leN (ab_leS (ab_leN ab_le0)))
set_option maxHeartbeats 4000000 in
set_option maxRecDepth 100000 in
theorem m_X9_behindStatement {d : Nat} {i0 : Option Nat} {i1 : Int32} {h : ab_HP} {r : Int32} (T_i0 : ∀ z, i0 = some z → (ab_shp z).1 = 3) (hf : f_X9_behindStatement i0 i1 h = some r) : ab_MET mX9_behindStatement (d + 5) 0 0 [va_rf i0, .int i1] h (ab_Pi r h) := ab_met (by decide +kernel) (by decide +kernel) (by simp [ab_lo, ab_rf1, Value.category]) (by simp [ab_lo0, ab_lo, ab_rf1, Value.category, List.replicate]) (x_X9_behindStatement T_i0 hf)
set_option maxHeartbeats 4000000 in
set_option maxRecDepth 100000 in
theorem x_X9_faultAt {d : Nat} {i0 : Int32} {h : ab_HP} {r : Int32}  (hf : f_X9_faultAt i0 h = some r) : ab_T mX9_faultAt (d + 0) 0 0 0 0 0 [some (.int i0)] [] h (ab_Pi r h) := by
  unfold f_X9_faultAt at hf
  refine ab_iconst (pc2 := 1) (v := (-1)) dX9_faultAt_0 rfl ab_k_iconst_m1 ?_
  refine ab_iload_n (pc2 := 2) dX9_faultAt_1 rfl rfl ?_
  refine ab_isub (pc2 := 3) dX9_faultAt_2 rfl ?_
  cases Option.some.inj hf
  exact ab_retI dX9_faultAt_3 (Or.inl rfl) (Nat.le_refl _) (Nat.le_refl _) ⟨rfl, rfl⟩
set_option maxHeartbeats 4000000 in
set_option maxRecDepth 100000 in
theorem m_X9_faultAt {d : Nat} {i0 : Int32} {h : ab_HP} {r : Int32}  (hf : f_X9_faultAt i0 h = some r) : ab_MET mX9_faultAt (d + 0) 0 0 [.int i0] h (ab_Pi r h) := ab_met (by decide +kernel) (by decide +kernel) (Nat.le_of_ble_eq_true rfl) rfl (x_X9_faultAt  hf)
set_option maxHeartbeats 4000000 in
set_option maxRecDepth 100000 in
theorem x_X9_number_l4 {d : Nat}  {r : Int32}  : ∀ (n : Nat) (i0 : Option Nat) (i2 : Int32) (i3 : Int32) (h : ab_HP), (∀ z, i0 = some z → (ab_shp z).1 = 3) → f_X9_number_l4  n i0 i2 i3 h = some r → ab_T mX9_number (d + 2) 0 0 0 0 4 [some (va_rf i0), none, some (.int i2), some (.int i3)] [] h (ab_Pi r h) := by
  intro n
  induction n with
  | zero =>
    intro i0 i2 i3 h T_i0 hf
    rw [f_X9_number_l4] at hf
    cases hf
  | succ n ih =>
    intro i0 i2 i3 h T_i0 hf
    rw [f_X9_number_l4] at hf
    refine ab_iload_n (pc2 := 5) dX9_number_4 rfl rfl ?_
    refine ab_aload_n (x := _) (pc2 := 6) dX9_number_5 rfl rfl ?_
    obtain ⟨q1, hq1, hf⟩ := ab_bind hf
    refine ab_getI (pc2 := 9) hq1 (T_i0 q1 hq1) fa_X9_43 (by decide) dX9_number_6 rfl ?_
    refine ab_icmp_ge (tgt := 43) (pc2 := 12) dX9_number_9 (by decide) rfl hf (fun c2 hf => ?_) (fun c2 hf => ?_)
    · refine ab_iload_n (pc2 := 44) dX9_number_43 rfl rfl ?_
      cases Option.some.inj hf
      exact ab_retI dX9_number_44 (Or.inl rfl) (Nat.le_refl _) (Nat.le_refl _) ⟨rfl, rfl⟩
    · refine ab_aload_n (x := _) (pc2 := 13) dX9_number_12 rfl rfl ?_
      refine ab_iload_n (pc2 := 14) dX9_number_13 rfl rfl ?_
      obtain ⟨w3, ew3, hf⟩ := ab_bind hf
      refine ab_callV (pc2 := 17) (st := []) hq1 (T_i0 q1 hq1) (by decide) (m_X6_read (d := (d + 0)) (T_i0 q1 hq1) ew3) mf_X6_read tw_25 tw_24 ts_X6_read (Or.inl (by decide +kernel)) dX9_number_14 rfl (by omega) (Nat.le_refl _) (Nat.le_refl _) rfl (Nat.le_of_ble_eq_true rfl) (fun v u hp => ?_)
      obtain ⟨rfl, rfl⟩ := hp
      show ab_T _ _ _ _ 0 0 17 _ (.int _ :: []) _ _
      obtain ⟨w4, ew4, hf⟩ := ab_bind hf
      refine ab_callS (pc2 := 20) (st := []) (m_X9_isDigit (d := (d + 1)) ew4) mf_X9_isDigit tw_26 tw_27 dX9_number_17 rfl (by omega) (Nat.le_refl _) (Nat.le_refl _) rfl (Nat.le_of_ble_eq_true rfl) (fun v u hp => ?_)
      obtain ⟨rfl, rfl, z5⟩ := hp
      show ab_T _ _ _ _ 0 0 20 _ (.int _ :: []) _ _
      refine ab_if_eq (tgt := 43) (pc2 := 23) dX9_number_20 (by decide) rfl hf (fun c6 hf => ?_) (fun c6 hf => ?_)
      · refine ab_iload_n (pc2 := 44) dX9_number_43 rfl rfl ?_
        cases Option.some.inj hf
        exact ab_retI dX9_number_44 (Or.inl rfl) (Nat.le_refl _) (Nat.le_refl _) ⟨rfl, rfl⟩
      · refine ab_bipush (pc2 := 25) (v := 10) dX9_number_23 rfl ab_k_bipush_10 ?_
        refine ab_iload_n (pc2 := 26) dX9_number_25 rfl rfl ?_
        refine ab_imul (pc2 := 27) dX9_number_26 rfl ?_
        refine ab_aload_n (x := _) (pc2 := 28) dX9_number_27 rfl rfl ?_
        refine ab_iload_n (pc2 := 29) dX9_number_28 rfl rfl ?_
        obtain ⟨w7, ew7, hf⟩ := ab_bind hf
        refine ab_callV (pc2 := 32) (st := [_]) hq1 (T_i0 q1 hq1) (by decide) (m_X6_read (d := (d + 0)) (T_i0 q1 hq1) ew7) mf_X6_read tw_25 tw_24 ts_X6_read (Or.inl (by decide +kernel)) dX9_number_29 rfl (by omega) (Nat.le_refl _) (Nat.le_refl _) rfl (Nat.le_of_ble_eq_true rfl) (fun v u hp => ?_)
        obtain ⟨rfl, rfl⟩ := hp
        show ab_T _ _ _ _ 0 0 32 _ (.int _ :: [_]) _ _
        refine ab_iadd (pc2 := 33) dX9_number_32 rfl ?_
        refine ab_bipush (pc2 := 35) (v := 48) dX9_number_33 rfl ab_k_bipush_48 ?_
        refine ab_isub (pc2 := 36) dX9_number_35 rfl ?_
        have hf := ab_let_e hf
        refine ab_istore_n (pc2 := 37) (lo2 := [some (va_rf _), none, some (.int _), some (.int _)]) dX9_number_36 rfl (by decide) rfl ?_
        refine ab_iinc (pc2 := 40) (v := _ + 1) (lo2 := [some (va_rf _), none, some (.int _), some (.int _)]) dX9_number_37 rfl rfl rfl (by decide) rfl ?_
        refine ab_goto (tgt := 4) dX9_number_40 (by decide) ?_
        exact ab_weak (ih _ _ _ _ T_i0 hf) (ab_leS (ab_leN (ab_leS (ab_leS ab_le0))))
set_option maxHeartbeats 4000000 in
set_option maxRecDepth 100000 in
theorem x_X9_number {d : Nat} {i0 : Option Nat} {i1 : Int32} {h : ab_HP} {r : Int32} (T_i0 : ∀ z, i0 = some z → (ab_shp z).1 = 3) (hf : f_X9_number i0 i1 h = some r) : ab_T mX9_number (d + 2) 0 0 0 0 0 [some (va_rf i0), some (.int i1), none, none] [] h (ab_Pi r h) := by
  unfold f_X9_number at hf
  refine ab_iconst (pc2 := 1) (v := 0) dX9_number_0 rfl ab_k_iconst_0 ?_
  refine ab_istore_n (pc2 := 2) (lo2 := [some (va_rf _), some (.int _), some (.int _), none]) dX9_number_1 rfl (by decide) rfl ?_
  refine ab_iload_n (pc2 := 3) dX9_number_2 rfl rfl ?_
  refine ab_istore_n (pc2 := 4) (lo2 := [some (va_rf _), some (.int _), some (.int _), some (.int _)]) dX9_number_3 rfl (by decide) rfl ?_
  exact ab_weak (x_X9_number_l4  _ _ _ _ _ T_i0 hf) (ab_leS (ab_leN (ab_leS (ab_leS ab_le0))))
set_option maxHeartbeats 4000000 in
set_option maxRecDepth 100000 in
theorem m_X9_number {d : Nat} {i0 : Option Nat} {i1 : Int32} {h : ab_HP} {r : Int32} (T_i0 : ∀ z, i0 = some z → (ab_shp z).1 = 3) (hf : f_X9_number i0 i1 h = some r) : ab_MET mX9_number (d + 2) 0 0 [va_rf i0, .int i1] h (ab_Pi r h) := ab_met (by decide +kernel) (by decide +kernel) (by simp [ab_lo, ab_rf1, Value.category]) (by simp [ab_lo0, ab_lo, ab_rf1, Value.category, List.replicate]) (x_X9_number T_i0 hf)
set_option maxHeartbeats 4000000 in
set_option maxRecDepth 100000 in
theorem x_X1_init {d : Nat} {t0 : Nat} {i1 : Int32} {i2 : Int32} {i3 : Int32} {i4 : Int32} {i5 : Int32} {h : ab_HP} {r : ab_HP} (ht0 : (ab_shp t0).1 = 4) (hf : f_X1_init t0 i1 i2 i3 i4 i5 h = some r) : ab_T mX1_init (d + 1) 0 0 0 0 0 [some (va_rf (some t0)), some (.int i1), some (.int i2), some (.int i3), some (.int i4), some (.int i5)] [] h (ab_Pv r) := by
  unfold f_X1_init at hf
  refine ab_aload_n (x := _) (pc2 := 1) dX1_init_0 rfl rfl ?_
  refine ab_objInit (pc2 := 4) rfl tw_46 tw_4 tw_obj (by omega) (Nat.le_of_ble_eq_true rfl) dX1_init_1 rfl ?_
  refine ab_aload_n (x := _) (pc2 := 5) dX1_init_4 rfl rfl ?_
  refine ab_iconst (pc2 := 6) (v := 0) dX1_init_5 rfl ab_k_iconst_0 ?_
  have hf := ab_let_e hf
  refine ab_putI (pc2 := 9) rfl ht0 fa_X1_9 (Or.inl rfl) (fun z => by cases z) dX1_init_6 rfl ?_
  refine ab_aload_n (x := _) (pc2 := 10) dX1_init_9 rfl rfl ?_
  refine ab_iconst (pc2 := 11) (v := 4) dX1_init_10 rfl ab_k_iconst_4 ?_
  have hf := ab_let_e hf
  refine ab_putI (pc2 := 14) rfl ht0 fa_X1_15 (Or.inl rfl) (fun z => by cases z) dX1_init_11 rfl ?_
  refine ab_aload_n (x := _) (pc2 := 15) dX1_init_14 rfl rfl ?_
  refine ab_iload_n (pc2 := 16) dX1_init_15 rfl rfl ?_
  have hf := ab_let_e hf
  refine ab_putI (pc2 := 19) rfl ht0 fa_X1_18 (Or.inl rfl) (fun _ => rfl) dX1_init_16 rfl ?_
  refine ab_aload_n (x := _) (pc2 := 20) dX1_init_19 rfl rfl ?_
  refine ab_iload_n (pc2 := 21) dX1_init_20 rfl rfl ?_
  have hf := ab_let_e hf
  refine ab_putI (pc2 := 24) rfl ht0 fa_X1_21 (Or.inl rfl) (fun _ => rfl) dX1_init_21 rfl ?_
  refine ab_aload_n (x := _) (pc2 := 25) dX1_init_24 rfl rfl ?_
  refine ab_iload_n (pc2 := 26) dX1_init_25 rfl rfl ?_
  have hf := ab_let_e hf
  refine ab_putI (pc2 := 29) rfl ht0 fa_X1_24 (Or.inl rfl) (fun _ => rfl) dX1_init_26 rfl ?_
  refine ab_aload_n (x := _) (pc2 := 30) dX1_init_29 rfl rfl ?_
  refine ab_iload (pc2 := 32) dX1_init_30 rfl rfl ?_
  have hf := ab_let_e hf
  refine ab_putI (pc2 := 35) rfl ht0 fa_X1_27 (Or.inl rfl) (fun _ => rfl) dX1_init_32 rfl ?_
  refine ab_aload_n (x := _) (pc2 := 36) dX1_init_35 rfl rfl ?_
  refine ab_iload (pc2 := 38) dX1_init_36 rfl rfl ?_
  have hf := ab_let_e hf
  refine ab_putI (pc2 := 41) rfl ht0 fa_X1_30 (Or.inl rfl) (fun _ => rfl) dX1_init_38 rfl ?_
  refine ab_aload_n (x := _) (pc2 := 42) dX1_init_41 rfl rfl ?_
  refine ab_iload (pc2 := 44) dX1_init_42 rfl rfl ?_
  have hf := ab_let_e hf
  refine ab_putI (pc2 := 47) rfl ht0 fa_X1_33 (Or.inl rfl) (fun z => by cases z) dX1_init_44 rfl ?_
  refine ab_aload_n (x := _) (pc2 := 48) dX1_init_47 rfl rfl ?_
  refine ab_iload (pc2 := 50) dX1_init_48 rfl rfl ?_
  have hf := ab_let_e hf
  refine ab_putI (pc2 := 53) rfl ht0 fa_X1_36 (Or.inl rfl) (fun z => by cases z) dX1_init_50 rfl ?_
  refine ab_aload_n (x := _) (pc2 := 54) dX1_init_53 rfl rfl ?_
  refine ab_iconst (pc2 := 55) (v := 1) dX1_init_54 rfl ab_k_iconst_1 ?_
  refine ab_iload_n (pc2 := 56) dX1_init_55 rfl rfl ?_
  refine ab_ishl (pc2 := 57) dX1_init_56 rfl ?_
  have hf := ab_let_e hf
  refine ab_putI (pc2 := 60) rfl ht0 fa_X1_39 (Or.inl rfl) (fun z => by cases z) dX1_init_57 rfl ?_
  refine ab_aload_n (x := _) (pc2 := 61) dX1_init_60 rfl rfl ?_
  refine ab_iload_n (pc2 := 62) dX1_init_61 rfl rfl ?_
  have hf := ab_let_e hf
  refine ab_putI (pc2 := 65) rfl ht0 fa_X1_42 (Or.inl rfl) (fun z => by cases z) dX1_init_62 rfl ?_
  refine ab_aload_n (x := _) (pc2 := 66) dX1_init_65 rfl rfl ?_
  refine ab_iload (pc2 := 68) dX1_init_66 rfl rfl ?_
  refine ab_if_eq (tgt := 75) (pc2 := 71) dX1_init_68 (by decide) rfl hf (fun c12 hf => ?_) (fun c12 hf => ?_)
  · refine ab_iconst (pc2 := 76) (v := 0) dX1_init_75 rfl ab_k_iconst_0 ?_
    have hf := ab_let_e hf
    refine ab_putI (pc2 := 79) rfl ht0 fa_X1_45 (Or.inr ⟨rfl, (Or.inl rfl)⟩) (fun z => by cases z) dX1_init_76 rfl ?_
    cases Option.some.inj hf
    exact ab_retV dX1_init_79 rfl (Nat.le_refl _) (Nat.le_refl _) ⟨rfl, rfl⟩
  · refine ab_iconst (pc2 := 72) (v := 1) dX1_init_71 rfl ab_k_iconst_1 ?_
    refine ab_goto (tgt := 76) dX1_init_72 (by decide) ?_
    have hf := ab_let_e hf
    refine ab_putI (pc2 := 79) rfl ht0 fa_X1_45 (Or.inr ⟨rfl, (Or.inr rfl)⟩) (fun z => by cases z) dX1_init_76 rfl ?_
    cases Option.some.inj hf
    exact ab_retV dX1_init_79 rfl (Nat.le_refl _) (Nat.le_refl _) ⟨rfl, rfl⟩
set_option maxHeartbeats 4000000 in
set_option maxRecDepth 100000 in
theorem m_X1_init {d : Nat} {t0 : Nat} {i1 : Int32} {i2 : Int32} {i3 : Int32} {i4 : Int32} {i5 : Int32} {h : ab_HP} {r : ab_HP} (ht0 : (ab_shp t0).1 = 4) (hf : f_X1_init t0 i1 i2 i3 i4 i5 h = some r) : ab_MET mX1_init (d + 1) 0 0 [va_rf (some t0), .int i1, .int i2, .int i3, .int i4, .int i5] h (ab_Pv r) := ab_met (by decide +kernel) (by decide +kernel) (Nat.le_of_ble_eq_true rfl) rfl (x_X1_init ht0 hf)
set_option maxHeartbeats 4000000 in
set_option maxRecDepth 100000 in
theorem x_X4_init {d : Nat} {t0 : Nat} {i1 : Int32} {i2 : Int32} {i3 : Int32} {i4 : Int32} {i5 : Int32} {h : ab_HP} {r : ab_HP} (ht0 : (ab_shp t0).1 = 4) (hf : f_X4_init t0 i1 i2 i3 i4 i5 h = some r) : ab_T mX4_init (d + 2) 0 0 0 0 0 [some (va_rf (some t0)), some (.int i1), some (.int i2), some (.int i3), some (.int i4), some (.int i5)] [] h (ab_Pv r) := by
  unfold f_X4_init at hf
  refine ab_aload_n (x := _) (pc2 := 1) dX4_init_0 rfl rfl ?_
  refine ab_iload_n (pc2 := 2) dX4_init_1 rfl rfl ?_
  refine ab_iload_n (pc2 := 3) dX4_init_2 rfl rfl ?_
  refine ab_iload_n (pc2 := 4) dX4_init_3 rfl rfl ?_
  refine ab_iload (pc2 := 6) dX4_init_4 rfl rfl ?_
  refine ab_iload (pc2 := 8) dX4_init_6 rfl rfl ?_
  obtain ⟨w1, ew1, hf⟩ := ab_bind hf
  refine ab_callI (pc2 := 11) (st := []) (m_X1_init (d := (d + 0)) ht0 ew1) mf_X1_init rfl rfl tw_48 tw_47 dX4_init_8 rfl (by omega) (Nat.le_refl _) (Nat.le_refl _) rfl (Nat.le_of_ble_eq_true rfl) (fun v u hp => ?_)
  obtain ⟨rfl, rfl⟩ := hp
  show ab_T _ _ _ _ 0 0 11 _ ([]) _ _
  refine ab_aload_n (x := _) (pc2 := 12) dX4_init_11 rfl rfl ?_
  refine ab_iconst (pc2 := 13) (v := 1) dX4_init_12 rfl ab_k_iconst_1 ?_
  have hf := ab_let_e hf
  refine ab_putI (pc2 := 16) rfl ht0 fa_X4_9 (Or.inl rfl) (fun z => by cases z) dX4_init_13 rfl ?_
  refine ab_aload_n (x := _) (pc2 := 17) dX4_init_16 rfl rfl ?_
  refine ab_dup (pc2 := 18) dX4_init_17 rfl (ab_rf1 _) ?_
  refine ab_getI (pc2 := 21) rfl ht0 fa_X4_15 (by decide) dX4_init_18 rfl ?_
  refine ab_iload (pc2 := 23) dX4_init_21 rfl rfl ?_
  refine ab_iadd (pc2 := 24) dX4_init_23 rfl ?_
  have hf := ab_let_e hf
  refine ab_putI (pc2 := 27) rfl ht0 fa_X4_15 (Or.inl rfl) (fun z => by cases z) dX4_init_24 rfl ?_
  refine ab_aload_n (x := _) (pc2 := 28) dX4_init_27 rfl rfl ?_
  refine ab_aload_n (x := _) (pc2 := 29) dX4_init_28 rfl rfl ?_
  refine ab_getI (pc2 := 32) rfl ht0 fa_X4_15 (by decide) dX4_init_29 rfl ?_
  refine ab_iconst (pc2 := 33) (v := 2) dX4_init_32 rfl ab_k_iconst_2 ?_
  refine ab_idiv (pc2 := 34) dX4_init_33 rfl (by decide) ?_
  have hf := ab_let_e hf
  refine ab_putI (pc2 := 37) rfl ht0 fa_X4_18 (Or.inl rfl) (fun z => by cases z) dX4_init_34 rfl ?_
  refine ab_aload_n (x := _) (pc2 := 38) dX4_init_37 rfl rfl ?_
  refine ab_dup (pc2 := 39) dX4_init_38 rfl (ab_rf1 _) ?_
  refine ab_getI (pc2 := 42) rfl ht0 fa_X4_21 (by decide) dX4_init_39 rfl ?_
  refine ab_iconst (pc2 := 43) (v := 3) dX4_init_42 rfl ab_k_iconst_3 ?_
  refine ab_imul (pc2 := 44) dX4_init_43 rfl ?_
  have hf := ab_let_e hf
  refine ab_putI (pc2 := 47) rfl ht0 fa_X4_21 (Or.inl rfl) (fun z => by cases z) dX4_init_44 rfl ?_
  cases Option.some.inj hf
  exact ab_retV dX4_init_47 rfl (Nat.le_refl _) (Nat.le_refl _) ⟨rfl, rfl⟩
set_option maxHeartbeats 4000000 in
set_option maxRecDepth 100000 in
theorem m_X4_init {d : Nat} {t0 : Nat} {i1 : Int32} {i2 : Int32} {i3 : Int32} {i4 : Int32} {i5 : Int32} {h : ab_HP} {r : ab_HP} (ht0 : (ab_shp t0).1 = 4) (hf : f_X4_init t0 i1 i2 i3 i4 i5 h = some r) : ab_MET mX4_init (d + 2) 0 0 [va_rf (some t0), .int i1, .int i2, .int i3, .int i4, .int i5] h (ab_Pv r) := ab_met (by decide +kernel) (by decide +kernel) (Nat.le_of_ble_eq_true rfl) rfl (x_X4_init ht0 hf)
set_option maxHeartbeats 4000000 in
set_option maxRecDepth 100000 in
theorem x_X7_init {d : Nat} {t0 : Nat} {i1 : Int32} {i2 : Int32} {i3 : Int32} {i4 : Int32} {i5 : Int32} {h : ab_HP} {r : ab_HP} (ht0 : (ab_shp t0).1 = 4) (hf : f_X7_init t0 i1 i2 i3 i4 i5 h = some r) : ab_T mX7_init (d + 2) 0 0 0 0 0 [some (va_rf (some t0)), some (.int i1), some (.int i2), some (.int i3), some (.int i4), some (.int i5)] [] h (ab_Pv r) := by
  unfold f_X7_init at hf
  refine ab_aload_n (x := _) (pc2 := 1) dX7_init_0 rfl rfl ?_
  refine ab_iload_n (pc2 := 2) dX7_init_1 rfl rfl ?_
  refine ab_iload_n (pc2 := 3) dX7_init_2 rfl rfl ?_
  refine ab_iload_n (pc2 := 4) dX7_init_3 rfl rfl ?_
  refine ab_iload (pc2 := 6) dX7_init_4 rfl rfl ?_
  refine ab_iload (pc2 := 8) dX7_init_6 rfl rfl ?_
  obtain ⟨w1, ew1, hf⟩ := ab_bind hf
  refine ab_callI (pc2 := 11) (st := []) (m_X1_init (d := (d + 0)) ht0 ew1) mf_X1_init rfl rfl tw_49 tw_47 dX7_init_8 rfl (by omega) (Nat.le_refl _) (Nat.le_refl _) rfl (Nat.le_of_ble_eq_true rfl) (fun v u hp => ?_)
  obtain ⟨rfl, rfl⟩ := hp
  show ab_T _ _ _ _ 0 0 11 _ ([]) _ _
  refine ab_aload_n (x := _) (pc2 := 12) dX7_init_11 rfl rfl ?_
  refine ab_iconst (pc2 := 13) (v := 2) dX7_init_12 rfl ab_k_iconst_2 ?_
  have hf := ab_let_e hf
  refine ab_putI (pc2 := 16) rfl ht0 fa_X7_9 (Or.inl rfl) (fun z => by cases z) dX7_init_13 rfl ?_
  refine ab_aload_n (x := _) (pc2 := 17) dX7_init_16 rfl rfl ?_
  refine ab_iconst (pc2 := 18) (v := 0) dX7_init_17 rfl ab_k_iconst_0 ?_
  have hf := ab_let_e hf
  refine ab_putI (pc2 := 21) rfl ht0 fa_X7_15 (Or.inl rfl) (fun z => by cases z) dX7_init_18 rfl ?_
  refine ab_aload_n (x := _) (pc2 := 22) dX7_init_21 rfl rfl ?_
  refine ab_dup (pc2 := 23) dX7_init_22 rfl (ab_rf1 _) ?_
  refine ab_getI (pc2 := 26) rfl ht0 fa_X7_18 (by decide) dX7_init_23 rfl ?_
  refine ab_iload (pc2 := 28) dX7_init_26 rfl rfl ?_
  refine ab_iadd (pc2 := 29) dX7_init_28 rfl ?_
  have hf := ab_let_e hf
  refine ab_putI (pc2 := 32) rfl ht0 fa_X7_18 (Or.inl rfl) (fun z => by cases z) dX7_init_29 rfl ?_
  cases Option.some.inj hf
  exact ab_retV dX7_init_32 rfl (Nat.le_refl _) (Nat.le_refl _) ⟨rfl, rfl⟩
set_option maxHeartbeats 4000000 in
set_option maxRecDepth 100000 in
theorem m_X7_init {d : Nat} {t0 : Nat} {i1 : Int32} {i2 : Int32} {i3 : Int32} {i4 : Int32} {i5 : Int32} {h : ab_HP} {r : ab_HP} (ht0 : (ab_shp t0).1 = 4) (hf : f_X7_init t0 i1 i2 i3 i4 i5 h = some r) : ab_MET mX7_init (d + 2) 0 0 [va_rf (some t0), .int i1, .int i2, .int i3, .int i4, .int i5] h (ab_Pv r) := ab_met (by decide +kernel) (by decide +kernel) (Nat.le_of_ble_eq_true rfl) rfl (x_X7_init ht0 hf)
set_option maxHeartbeats 4000000 in
set_option maxRecDepth 100000 in
theorem x_X2_init {d : Nat} {t0 : Nat} {i1 : Int32} {i2 : Int32} {i3 : Int32} {i4 : Int32} {i5 : Int32} {h : ab_HP} {r : ab_HP} (ht0 : (ab_shp t0).1 = 4) (hf : f_X2_init t0 i1 i2 i3 i4 i5 h = some r) : ab_T mX2_init (d + 3) 0 0 0 0 0 [some (va_rf (some t0)), some (.int i1), some (.int i2), some (.int i3), some (.int i4), some (.int i5)] [] h (ab_Pv r) := by
  unfold f_X2_init at hf
  refine ab_aload_n (x := _) (pc2 := 1) dX2_init_0 rfl rfl ?_
  refine ab_iload_n (pc2 := 2) dX2_init_1 rfl rfl ?_
  refine ab_iload_n (pc2 := 3) dX2_init_2 rfl rfl ?_
  refine ab_iload_n (pc2 := 4) dX2_init_3 rfl rfl ?_
  refine ab_iload (pc2 := 6) dX2_init_4 rfl rfl ?_
  refine ab_iload (pc2 := 8) dX2_init_6 rfl rfl ?_
  obtain ⟨w1, ew1, hf⟩ := ab_bind hf
  refine ab_callI (pc2 := 11) (st := []) (m_X7_init (d := (d + 0)) ht0 ew1) mf_X7_init rfl rfl tw_51 tw_50 dX2_init_8 rfl (by omega) (Nat.le_refl _) (Nat.le_refl _) rfl (Nat.le_of_ble_eq_true rfl) (fun v u hp => ?_)
  obtain ⟨rfl, rfl⟩ := hp
  show ab_T _ _ _ _ 0 0 11 _ ([]) _ _
  refine ab_aload_n (x := _) (pc2 := 12) dX2_init_11 rfl rfl ?_
  refine ab_iconst (pc2 := 13) (v := 3) dX2_init_12 rfl ab_k_iconst_3 ?_
  have hf := ab_let_e hf
  refine ab_putI (pc2 := 16) rfl ht0 fa_X2_9 (Or.inl rfl) (fun z => by cases z) dX2_init_13 rfl ?_
  refine ab_aload_n (x := _) (pc2 := 17) dX2_init_16 rfl rfl ?_
  refine ab_dup (pc2 := 18) dX2_init_17 rfl (ab_rf1 _) ?_
  refine ab_getI (pc2 := 21) rfl ht0 fa_X2_15 (by decide) dX2_init_18 rfl ?_
  refine ab_iconst (pc2 := 22) (v := 2) dX2_init_21 rfl ab_k_iconst_2 ?_
  refine ab_idiv (pc2 := 23) dX2_init_22 rfl (by decide) ?_
  have hf := ab_let_e hf
  refine ab_putI (pc2 := 26) rfl ht0 fa_X2_15 (Or.inl rfl) (fun z => by cases z) dX2_init_23 rfl ?_
  refine ab_aload_n (x := _) (pc2 := 27) dX2_init_26 rfl rfl ?_
  refine ab_iload (pc2 := 29) dX2_init_27 rfl rfl ?_
  have hf := ab_let_e hf
  refine ab_putI (pc2 := 32) rfl ht0 fa_X2_18 (Or.inl rfl) (fun z => by cases z) dX2_init_29 rfl ?_
  refine ab_aload_n (x := _) (pc2 := 33) dX2_init_32 rfl rfl ?_
  refine ab_dup (pc2 := 34) dX2_init_33 rfl (ab_rf1 _) ?_
  refine ab_getI (pc2 := 37) rfl ht0 fa_X2_21 (by decide) dX2_init_34 rfl ?_
  refine ab_iload (pc2 := 39) dX2_init_37 rfl rfl ?_
  refine ab_isub (pc2 := 40) dX2_init_39 rfl ?_
  have hf := ab_let_e hf
  refine ab_putI (pc2 := 43) rfl ht0 fa_X2_21 (Or.inl rfl) (fun z => by cases z) dX2_init_40 rfl ?_
  refine ab_aload_n (x := _) (pc2 := 44) dX2_init_43 rfl rfl ?_
  refine ab_iconst (pc2 := 45) (v := 0) dX2_init_44 rfl ab_k_iconst_0 ?_
  have hf := ab_let_e hf
  refine ab_putI (pc2 := 48) rfl ht0 fa_X2_24 (Or.inr ⟨rfl, (Or.inl rfl)⟩) (fun z => by cases z) dX2_init_45 rfl ?_
  cases Option.some.inj hf
  exact ab_retV dX2_init_48 rfl (Nat.le_refl _) (Nat.le_refl _) ⟨rfl, rfl⟩
set_option maxHeartbeats 4000000 in
set_option maxRecDepth 100000 in
theorem m_X2_init {d : Nat} {t0 : Nat} {i1 : Int32} {i2 : Int32} {i3 : Int32} {i4 : Int32} {i5 : Int32} {h : ab_HP} {r : ab_HP} (ht0 : (ab_shp t0).1 = 4) (hf : f_X2_init t0 i1 i2 i3 i4 i5 h = some r) : ab_MET mX2_init (d + 3) 0 0 [va_rf (some t0), .int i1, .int i2, .int i3, .int i4, .int i5] h (ab_Pv r) := ab_met (by decide +kernel) (by decide +kernel) (Nat.le_of_ble_eq_true rfl) rfl (x_X2_init ht0 hf)
set_option maxHeartbeats 4000000 in
set_option maxRecDepth 100000 in
theorem x_X5_init {d : Nat} {t0 : Nat} {i1 : Int32} {i2 : Int32} {i3 : Int32} {i4 : Int32} {i5 : Int32} {h : ab_HP} {r : ab_HP} (ht0 : (ab_shp t0).1 = 4) (hf : f_X5_init t0 i1 i2 i3 i4 i5 h = some r) : ab_T mX5_init (d + 2) 0 0 0 0 0 [some (va_rf (some t0)), some (.int i1), some (.int i2), some (.int i3), some (.int i4), some (.int i5)] [] h (ab_Pv r) := by
  unfold f_X5_init at hf
  refine ab_aload_n (x := _) (pc2 := 1) dX5_init_0 rfl rfl ?_
  refine ab_iload_n (pc2 := 2) dX5_init_1 rfl rfl ?_
  refine ab_iload_n (pc2 := 3) dX5_init_2 rfl rfl ?_
  refine ab_iload_n (pc2 := 4) dX5_init_3 rfl rfl ?_
  refine ab_iload (pc2 := 6) dX5_init_4 rfl rfl ?_
  refine ab_iload (pc2 := 8) dX5_init_6 rfl rfl ?_
  obtain ⟨w1, ew1, hf⟩ := ab_bind hf
  refine ab_callI (pc2 := 11) (st := []) (m_X1_init (d := (d + 0)) ht0 ew1) mf_X1_init rfl rfl tw_52 tw_47 dX5_init_8 rfl (by omega) (Nat.le_refl _) (Nat.le_refl _) rfl (Nat.le_of_ble_eq_true rfl) (fun v u hp => ?_)
  obtain ⟨rfl, rfl⟩ := hp
  show ab_T _ _ _ _ 0 0 11 _ ([]) _ _
  refine ab_aload_n (x := _) (pc2 := 12) dX5_init_11 rfl rfl ?_
  refine ab_iconst (pc2 := 13) (v := 4) dX5_init_12 rfl ab_k_iconst_4 ?_
  have hf := ab_let_e hf
  refine ab_putI (pc2 := 16) rfl ht0 fa_X5_9 (Or.inl rfl) (fun z => by cases z) dX5_init_13 rfl ?_
  refine ab_aload_n (x := _) (pc2 := 17) dX5_init_16 rfl rfl ?_
  refine ab_iconst (pc2 := 18) (v := 0) dX5_init_17 rfl ab_k_iconst_0 ?_
  have hf := ab_let_e hf
  refine ab_putI (pc2 := 21) rfl ht0 fa_X5_15 (Or.inl rfl) (fun z => by cases z) dX5_init_18 rfl ?_
  refine ab_aload_n (x := _) (pc2 := 22) dX5_init_21 rfl rfl ?_
  refine ab_iconst (pc2 := 23) (v := 0) dX5_init_22 rfl ab_k_iconst_0 ?_
  have hf := ab_let_e hf
  refine ab_putI (pc2 := 26) rfl ht0 fa_X5_18 (Or.inl rfl) (fun z => by cases z) dX5_init_23 rfl ?_
  refine ab_aload_n (x := _) (pc2 := 27) dX5_init_26 rfl rfl ?_
  refine ab_iload (pc2 := 29) dX5_init_27 rfl rfl ?_
  refine ab_iconst (pc2 := 30) (v := 5) dX5_init_29 rfl ab_k_iconst_5 ?_
  refine ab_icmp_lt (tgt := 37) (pc2 := 33) dX5_init_30 (by decide) rfl hf (fun c5 hf => ?_) (fun c5 hf => ?_)
  · refine ab_iconst (pc2 := 38) (v := 0) dX5_init_37 rfl ab_k_iconst_0 ?_
    have hf := ab_let_e hf
    refine ab_putI (pc2 := 41) rfl ht0 fa_X5_21 (Or.inr ⟨rfl, (Or.inl rfl)⟩) (fun z => by cases z) dX5_init_38 rfl ?_
    refine ab_aload_n (x := _) (pc2 := 42) dX5_init_41 rfl rfl ?_
    refine ab_dup (pc2 := 43) dX5_init_42 rfl (ab_rf1 _) ?_
    refine ab_getI (pc2 := 46) rfl ht0 fa_X5_25 (by decide) dX5_init_43 rfl ?_
    refine ab_iconst (pc2 := 47) (v := 3) dX5_init_46 rfl ab_k_iconst_3 ?_
    refine ab_isub (pc2 := 48) dX5_init_47 rfl ?_
    have hf := ab_let_e hf
    refine ab_putI (pc2 := 51) rfl ht0 fa_X5_25 (Or.inl rfl) (fun z => by cases z) dX5_init_48 rfl ?_
    cases Option.some.inj hf
    exact ab_retV dX5_init_51 rfl (Nat.le_refl _) (Nat.le_refl _) ⟨rfl, rfl⟩
  · refine ab_iconst (pc2 := 34) (v := 1) dX5_init_33 rfl ab_k_iconst_1 ?_
    refine ab_goto (tgt := 38) dX5_init_34 (by decide) ?_
    have hf := ab_let_e hf
    refine ab_putI (pc2 := 41) rfl ht0 fa_X5_21 (Or.inr ⟨rfl, (Or.inr rfl)⟩) (fun z => by cases z) dX5_init_38 rfl ?_
    refine ab_aload_n (x := _) (pc2 := 42) dX5_init_41 rfl rfl ?_
    refine ab_dup (pc2 := 43) dX5_init_42 rfl (ab_rf1 _) ?_
    refine ab_getI (pc2 := 46) rfl ht0 fa_X5_25 (by decide) dX5_init_43 rfl ?_
    refine ab_iconst (pc2 := 47) (v := 3) dX5_init_46 rfl ab_k_iconst_3 ?_
    refine ab_isub (pc2 := 48) dX5_init_47 rfl ?_
    have hf := ab_let_e hf
    refine ab_putI (pc2 := 51) rfl ht0 fa_X5_25 (Or.inl rfl) (fun z => by cases z) dX5_init_48 rfl ?_
    cases Option.some.inj hf
    exact ab_retV dX5_init_51 rfl (Nat.le_refl _) (Nat.le_refl _) ⟨rfl, rfl⟩
set_option maxHeartbeats 4000000 in
set_option maxRecDepth 100000 in
theorem m_X5_init {d : Nat} {t0 : Nat} {i1 : Int32} {i2 : Int32} {i3 : Int32} {i4 : Int32} {i5 : Int32} {h : ab_HP} {r : ab_HP} (ht0 : (ab_shp t0).1 = 4) (hf : f_X5_init t0 i1 i2 i3 i4 i5 h = some r) : ab_MET mX5_init (d + 2) 0 0 [va_rf (some t0), .int i1, .int i2, .int i3, .int i4, .int i5] h (ab_Pv r) := ab_met (by decide +kernel) (by decide +kernel) (Nat.le_of_ble_eq_true rfl) rfl (x_X5_init ht0 hf)
set_option maxHeartbeats 4000000 in
set_option maxRecDepth 100000 in
theorem x_X0_init {d : Nat} {t0 : Nat} {i1 : Int32} {i2 : Int32} {i3 : Int32} {i4 : Int32} {i5 : Int32} {h : ab_HP} {r : ab_HP} (ht0 : (ab_shp t0).1 = 4) (hf : f_X0_init t0 i1 i2 i3 i4 i5 h = some r) : ab_T mX0_init (d + 3) 0 0 0 0 0 [some (va_rf (some t0)), some (.int i1), some (.int i2), some (.int i3), some (.int i4), some (.int i5)] [] h (ab_Pv r) := by
  unfold f_X0_init at hf
  refine ab_aload_n (x := _) (pc2 := 1) dX0_init_0 rfl rfl ?_
  refine ab_iload_n (pc2 := 2) dX0_init_1 rfl rfl ?_
  refine ab_iload_n (pc2 := 3) dX0_init_2 rfl rfl ?_
  refine ab_iload_n (pc2 := 4) dX0_init_3 rfl rfl ?_
  refine ab_iload (pc2 := 6) dX0_init_4 rfl rfl ?_
  refine ab_iload (pc2 := 8) dX0_init_6 rfl rfl ?_
  obtain ⟨w1, ew1, hf⟩ := ab_bind hf
  refine ab_callI (pc2 := 11) (st := []) (m_X4_init (d := (d + 0)) ht0 ew1) mf_X4_init rfl rfl tw_54 tw_53 dX0_init_8 rfl (by omega) (Nat.le_refl _) (Nat.le_refl _) rfl (Nat.le_of_ble_eq_true rfl) (fun v u hp => ?_)
  obtain ⟨rfl, rfl⟩ := hp
  show ab_T _ _ _ _ 0 0 11 _ ([]) _ _
  refine ab_aload_n (x := _) (pc2 := 12) dX0_init_11 rfl rfl ?_
  refine ab_iconst (pc2 := 13) (v := 5) dX0_init_12 rfl ab_k_iconst_5 ?_
  have hf := ab_let_e hf
  refine ab_putI (pc2 := 16) rfl ht0 fa_X0_9 (Or.inl rfl) (fun z => by cases z) dX0_init_13 rfl ?_
  refine ab_aload_n (x := _) (pc2 := 17) dX0_init_16 rfl rfl ?_
  refine ab_dup (pc2 := 18) dX0_init_17 rfl (ab_rf1 _) ?_
  refine ab_getI (pc2 := 21) rfl ht0 fa_X0_15 (by decide) dX0_init_18 rfl ?_
  refine ab_iconst (pc2 := 22) (v := 5) dX0_init_21 rfl ab_k_iconst_5 ?_
  refine ab_iadd (pc2 := 23) dX0_init_22 rfl ?_
  have hf := ab_let_e hf
  refine ab_putI (pc2 := 26) rfl ht0 fa_X0_15 (Or.inl rfl) (fun z => by cases z) dX0_init_23 rfl ?_
  refine ab_aload_n (x := _) (pc2 := 27) dX0_init_26 rfl rfl ?_
  refine ab_aload_n (x := _) (pc2 := 28) dX0_init_27 rfl rfl ?_
  refine ab_getI (pc2 := 31) rfl ht0 fa_X0_15 (by decide) dX0_init_28 rfl ?_
  refine ab_iconst (pc2 := 32) (v := 2) dX0_init_31 rfl ab_k_iconst_2 ?_
  refine ab_idiv (pc2 := 33) dX0_init_32 rfl (by decide) ?_
  have hf := ab_let_e hf
  refine ab_putI (pc2 := 36) rfl ht0 fa_X0_18 (Or.inl rfl) (fun z => by cases z) dX0_init_33 rfl ?_
  refine ab_aload_n (x := _) (pc2 := 37) dX0_init_36 rfl rfl ?_
  refine ab_iload (pc2 := 39) dX0_init_37 rfl rfl ?_
  refine ab_bipush (pc2 := 41) (v := 9) dX0_init_39 rfl ab_k_bipush_9 ?_
  refine ab_icmp_ne (tgt := 48) (pc2 := 44) dX0_init_41 (by decide) rfl hf (fun c5 hf => ?_) (fun c5 hf => ?_)
  · refine ab_iconst (pc2 := 49) (v := 0) dX0_init_48 rfl ab_k_iconst_0 ?_
    have hf := ab_let_e hf
    refine ab_putI (pc2 := 52) rfl ht0 fa_X0_21 (Or.inr ⟨rfl, (Or.inl rfl)⟩) (fun z => by cases z) dX0_init_49 rfl ?_
    refine ab_aload_n (x := _) (pc2 := 53) dX0_init_52 rfl rfl ?_
    refine ab_dup (pc2 := 54) dX0_init_53 rfl (ab_rf1 _) ?_
    refine ab_getI (pc2 := 57) rfl ht0 fa_X0_25 (by decide) dX0_init_54 rfl ?_
    refine ab_iconst (pc2 := 58) (v := 1) dX0_init_57 rfl ab_k_iconst_1 ?_
    refine ab_iadd (pc2 := 59) dX0_init_58 rfl ?_
    have hf := ab_let_e hf
    refine ab_putI (pc2 := 62) rfl ht0 fa_X0_25 (Or.inl rfl) (fun z => by cases z) dX0_init_59 rfl ?_
    refine ab_aload_n (x := _) (pc2 := 63) dX0_init_62 rfl rfl ?_
    refine ab_dup (pc2 := 64) dX0_init_63 rfl (ab_rf1 _) ?_
    refine ab_getI (pc2 := 67) rfl ht0 fa_X0_28 (by decide) dX0_init_64 rfl ?_
    refine ab_bipush (pc2 := 69) (v := 100) dX0_init_67 rfl ab_k_bipush_100 ?_
    refine ab_iadd (pc2 := 70) dX0_init_69 rfl ?_
    have hf := ab_let_e hf
    refine ab_putI (pc2 := 73) rfl ht0 fa_X0_28 (Or.inl rfl) (fun z => by cases z) dX0_init_70 rfl ?_
    cases Option.some.inj hf
    exact ab_retV dX0_init_73 rfl (Nat.le_refl _) (Nat.le_refl _) ⟨rfl, rfl⟩
  · refine ab_iconst (pc2 := 45) (v := 1) dX0_init_44 rfl ab_k_iconst_1 ?_
    refine ab_goto (tgt := 49) dX0_init_45 (by decide) ?_
    have hf := ab_let_e hf
    refine ab_putI (pc2 := 52) rfl ht0 fa_X0_21 (Or.inr ⟨rfl, (Or.inr rfl)⟩) (fun z => by cases z) dX0_init_49 rfl ?_
    refine ab_aload_n (x := _) (pc2 := 53) dX0_init_52 rfl rfl ?_
    refine ab_dup (pc2 := 54) dX0_init_53 rfl (ab_rf1 _) ?_
    refine ab_getI (pc2 := 57) rfl ht0 fa_X0_25 (by decide) dX0_init_54 rfl ?_
    refine ab_iconst (pc2 := 58) (v := 1) dX0_init_57 rfl ab_k_iconst_1 ?_
    refine ab_iadd (pc2 := 59) dX0_init_58 rfl ?_
    have hf := ab_let_e hf
    refine ab_putI (pc2 := 62) rfl ht0 fa_X0_25 (Or.inl rfl) (fun z => by cases z) dX0_init_59 rfl ?_
    refine ab_aload_n (x := _) (pc2 := 63) dX0_init_62 rfl rfl ?_
    refine ab_dup (pc2 := 64) dX0_init_63 rfl (ab_rf1 _) ?_
    refine ab_getI (pc2 := 67) rfl ht0 fa_X0_28 (by decide) dX0_init_64 rfl ?_
    refine ab_bipush (pc2 := 69) (v := 100) dX0_init_67 rfl ab_k_bipush_100 ?_
    refine ab_iadd (pc2 := 70) dX0_init_69 rfl ?_
    have hf := ab_let_e hf
    refine ab_putI (pc2 := 73) rfl ht0 fa_X0_28 (Or.inl rfl) (fun z => by cases z) dX0_init_70 rfl ?_
    cases Option.some.inj hf
    exact ab_retV dX0_init_73 rfl (Nat.le_refl _) (Nat.le_refl _) ⟨rfl, rfl⟩
set_option maxHeartbeats 4000000 in
set_option maxRecDepth 100000 in
theorem m_X0_init {d : Nat} {t0 : Nat} {i1 : Int32} {i2 : Int32} {i3 : Int32} {i4 : Int32} {i5 : Int32} {h : ab_HP} {r : ab_HP} (ht0 : (ab_shp t0).1 = 4) (hf : f_X0_init t0 i1 i2 i3 i4 i5 h = some r) : ab_MET mX0_init (d + 3) 0 0 [va_rf (some t0), .int i1, .int i2, .int i3, .int i4, .int i5] h (ab_Pv r) := ab_met (by decide +kernel) (by decide +kernel) (Nat.le_of_ble_eq_true rfl) rfl (x_X0_init ht0 hf)
set_option maxHeartbeats 4000000 in
set_option maxRecDepth 100000 in
theorem x_X3_init {d : Nat} {t0 : Nat} {i1 : Int32} {i2 : Int32} {i3 : Int32} {i4 : Int32} {i5 : Int32} {h : ab_HP} {r : ab_HP} (ht0 : (ab_shp t0).1 = 4) (hf : f_X3_init t0 i1 i2 i3 i4 i5 h = some r) : ab_T mX3_init (d + 2) 0 0 0 0 0 [some (va_rf (some t0)), some (.int i1), some (.int i2), some (.int i3), some (.int i4), some (.int i5)] [] h (ab_Pv r) := by
  unfold f_X3_init at hf
  refine ab_aload_n (x := _) (pc2 := 1) dX3_init_0 rfl rfl ?_
  refine ab_iload_n (pc2 := 2) dX3_init_1 rfl rfl ?_
  refine ab_iload_n (pc2 := 3) dX3_init_2 rfl rfl ?_
  refine ab_iload_n (pc2 := 4) dX3_init_3 rfl rfl ?_
  refine ab_iload (pc2 := 6) dX3_init_4 rfl rfl ?_
  refine ab_iload (pc2 := 8) dX3_init_6 rfl rfl ?_
  obtain ⟨w1, ew1, hf⟩ := ab_bind hf
  refine ab_callI (pc2 := 11) (st := []) (m_X1_init (d := (d + 0)) ht0 ew1) mf_X1_init rfl rfl tw_55 tw_47 dX3_init_8 rfl (by omega) (Nat.le_refl _) (Nat.le_refl _) rfl (Nat.le_of_ble_eq_true rfl) (fun v u hp => ?_)
  obtain ⟨rfl, rfl⟩ := hp
  show ab_T _ _ _ _ 0 0 11 _ ([]) _ _
  refine ab_aload_n (x := _) (pc2 := 12) dX3_init_11 rfl rfl ?_
  refine ab_bipush (pc2 := 14) (v := 6) dX3_init_12 rfl ab_k_bipush_6 ?_
  have hf := ab_let_e hf
  refine ab_putI (pc2 := 17) rfl ht0 fa_X3_9 (Or.inl rfl) (fun z => by cases z) dX3_init_14 rfl ?_
  refine ab_aload_n (x := _) (pc2 := 18) dX3_init_17 rfl rfl ?_
  refine ab_aload_n (x := _) (pc2 := 19) dX3_init_18 rfl rfl ?_
  refine ab_getI (pc2 := 22) rfl ht0 fa_X3_15 (by decide) dX3_init_19 rfl ?_
  have hf := ab_let_e hf
  refine ab_putI (pc2 := 25) rfl ht0 fa_X3_18 (Or.inl rfl) (fun z => by cases z) dX3_init_22 rfl ?_
  refine ab_aload_n (x := _) (pc2 := 26) dX3_init_25 rfl rfl ?_
  refine ab_iconst (pc2 := 27) (v := 0) dX3_init_26 rfl ab_k_iconst_0 ?_
  have hf := ab_let_e hf
  refine ab_putI (pc2 := 30) rfl ht0 fa_X3_15 (Or.inl rfl) (fun z => by cases z) dX3_init_27 rfl ?_
  refine ab_aload_n (x := _) (pc2 := 31) dX3_init_30 rfl rfl ?_
  refine ab_dup (pc2 := 32) dX3_init_31 rfl (ab_rf1 _) ?_
  refine ab_getI (pc2 := 35) rfl ht0 fa_X3_21 (by decide) dX3_init_32 rfl ?_
  refine ab_iconst (pc2 := 36) (v := 2) dX3_init_35 rfl ab_k_iconst_2 ?_
  refine ab_imul (pc2 := 37) dX3_init_36 rfl ?_
  have hf := ab_let_e hf
  refine ab_putI (pc2 := 40) rfl ht0 fa_X3_21 (Or.inl rfl) (fun z => by cases z) dX3_init_37 rfl ?_
  cases Option.some.inj hf
  exact ab_retV dX3_init_40 rfl (Nat.le_refl _) (Nat.le_refl _) ⟨rfl, rfl⟩
set_option maxHeartbeats 4000000 in
set_option maxRecDepth 100000 in
theorem m_X3_init {d : Nat} {t0 : Nat} {i1 : Int32} {i2 : Int32} {i3 : Int32} {i4 : Int32} {i5 : Int32} {h : ab_HP} {r : ab_HP} (ht0 : (ab_shp t0).1 = 4) (hf : f_X3_init t0 i1 i2 i3 i4 i5 h = some r) : ab_MET mX3_init (d + 2) 0 0 [va_rf (some t0), .int i1, .int i2, .int i3, .int i4, .int i5] h (ab_Pv r) := ab_met (by decide +kernel) (by decide +kernel) (Nat.le_of_ble_eq_true rfl) rfl (x_X3_init ht0 hf)
set_option maxHeartbeats 4000000 in
set_option maxRecDepth 100000 in
theorem x_X8_init {d : Nat} {t0 : Nat} {i1 : Int32} {i2 : Int32} {i3 : Int32} {i4 : Int32} {i5 : Int32} {h : ab_HP} {r : ab_HP} (ht0 : (ab_shp t0).1 = 4) (hf : f_X8_init t0 i1 i2 i3 i4 i5 h = some r) : ab_T mX8_init (d + 3) 0 0 0 0 0 [some (va_rf (some t0)), some (.int i1), some (.int i2), some (.int i3), some (.int i4), some (.int i5)] [] h (ab_Pv r) := by
  unfold f_X8_init at hf
  refine ab_aload_n (x := _) (pc2 := 1) dX8_init_0 rfl rfl ?_
  refine ab_iload_n (pc2 := 2) dX8_init_1 rfl rfl ?_
  refine ab_iload_n (pc2 := 3) dX8_init_2 rfl rfl ?_
  refine ab_iload_n (pc2 := 4) dX8_init_3 rfl rfl ?_
  refine ab_iload (pc2 := 6) dX8_init_4 rfl rfl ?_
  refine ab_iload (pc2 := 8) dX8_init_6 rfl rfl ?_
  obtain ⟨w1, ew1, hf⟩ := ab_bind hf
  refine ab_callI (pc2 := 11) (st := []) (m_X5_init (d := (d + 0)) ht0 ew1) mf_X5_init rfl rfl tw_57 tw_56 dX8_init_8 rfl (by omega) (Nat.le_refl _) (Nat.le_refl _) rfl (Nat.le_of_ble_eq_true rfl) (fun v u hp => ?_)
  obtain ⟨rfl, rfl⟩ := hp
  show ab_T _ _ _ _ 0 0 11 _ ([]) _ _
  refine ab_aload_n (x := _) (pc2 := 12) dX8_init_11 rfl rfl ?_
  refine ab_bipush (pc2 := 14) (v := 7) dX8_init_12 rfl ab_k_bipush_7 ?_
  have hf := ab_let_e hf
  refine ab_putI (pc2 := 17) rfl ht0 fa_X8_9 (Or.inl rfl) (fun z => by cases z) dX8_init_14 rfl ?_
  refine ab_aload_n (x := _) (pc2 := 18) dX8_init_17 rfl rfl ?_
  refine ab_dup (pc2 := 19) dX8_init_18 rfl (ab_rf1 _) ?_
  refine ab_getI (pc2 := 22) rfl ht0 fa_X8_15 (by decide) dX8_init_19 rfl ?_
  refine ab_iconst (pc2 := 23) (v := 1) dX8_init_22 rfl ab_k_iconst_1 ?_
  refine ab_iload (pc2 := 25) dX8_init_23 rfl rfl ?_
  refine ab_ishl (pc2 := 26) dX8_init_25 rfl ?_
  refine ab_ior (pc2 := 27) dX8_init_26 rfl ?_
  have hf := ab_let_e hf
  refine ab_putI (pc2 := 30) rfl ht0 fa_X8_15 (Or.inl rfl) (fun z => by cases z) dX8_init_27 rfl ?_
  refine ab_aload_n (x := _) (pc2 := 31) dX8_init_30 rfl rfl ?_
  refine ab_dup (pc2 := 32) dX8_init_31 rfl (ab_rf1 _) ?_
  refine ab_getI (pc2 := 35) rfl ht0 fa_X8_18 (by decide) dX8_init_32 rfl ?_
  refine ab_iload (pc2 := 37) dX8_init_35 rfl rfl ?_
  refine ab_imul (pc2 := 38) dX8_init_37 rfl ?_
  have hf := ab_let_e hf
  refine ab_putI (pc2 := 41) rfl ht0 fa_X8_18 (Or.inl rfl) (fun z => by cases z) dX8_init_38 rfl ?_
  refine ab_aload_n (x := _) (pc2 := 42) dX8_init_41 rfl rfl ?_
  refine ab_sipush (pc2 := 45) (v := 200) dX8_init_42 rfl ab_k_sipush_200 ?_
  refine ab_aload_n (x := _) (pc2 := 46) dX8_init_45 rfl rfl ?_
  refine ab_getI (pc2 := 49) rfl ht0 fa_X8_18 (by decide) dX8_init_46 rfl ?_
  refine ab_iadd (pc2 := 50) dX8_init_49 rfl ?_
  have hf := ab_let_e hf
  refine ab_putI (pc2 := 53) rfl ht0 fa_X8_21 (Or.inl rfl) (fun z => by cases z) dX8_init_50 rfl ?_
  cases Option.some.inj hf
  exact ab_retV dX8_init_53 rfl (Nat.le_refl _) (Nat.le_refl _) ⟨rfl, rfl⟩
set_option maxHeartbeats 4000000 in
set_option maxRecDepth 100000 in
theorem m_X8_init {d : Nat} {t0 : Nat} {i1 : Int32} {i2 : Int32} {i3 : Int32} {i4 : Int32} {i5 : Int32} {h : ab_HP} {r : ab_HP} (ht0 : (ab_shp t0).1 = 4) (hf : f_X8_init t0 i1 i2 i3 i4 i5 h = some r) : ab_MET mX8_init (d + 3) 0 0 [va_rf (some t0), .int i1, .int i2, .int i3, .int i4, .int i5] h (ab_Pv r) := ab_met (by decide +kernel) (by decide +kernel) (Nat.le_of_ble_eq_true rfl) rfl (x_X8_init ht0 hf)
set_option maxHeartbeats 4000000 in
set_option maxRecDepth 100000 in
theorem x_X9_newDeed_l16 {d : Nat} {t0 : Nat} {r : ((Option Nat) × ab_HP)} (ht0 : (ab_shp t0).1 = 1) : ∀ (n : Nat) (i1 : Option Nat) (i2 : Int32) (i3 : Int32) (i4 : Int32) (i5 : Int32) (h : ab_HP) (c s : Nat), c + n * 0 + 1 ≤ 1 → s + n * 0 + 14 ≤ 14 →  (∀ z, i1 = some z → (ab_shp z).1 = 3) → f_X9_newDeed_l16 t0 n i1 i2 i3 i4 i5 h = some r → ab_T mX9_newDeed (d + 4) 1 14 c s 16 [some (va_rf (some t0)), some (va_rf i1), some (.int i2), some (.int i3), some (.int i4), some (.int i5), none, none, none] [] h (ab_Pr 4 r.1 r.2) := by
  intro n
  induction n with
  | zero =>
    intro i1 i2 i3 i4 i5 h c s hc hs T_i1 hf
    rw [f_X9_newDeed_l16] at hf
    cases hf
  | succ n ih =>
    intro i1 i2 i3 i4 i5 h c s hc hs T_i1 hf
    rw [f_X9_newDeed_l16] at hf
    refine ab_iload (pc2 := 18) dX9_newDeed_16 rfl rfl ?_
    refine ab_iload_n (pc2 := 19) dX9_newDeed_18 rfl rfl ?_
    refine ab_icmp_ge (tgt := 44) (pc2 := 22) dX9_newDeed_19 (by decide) rfl hf (fun c2 hf => ?_) (fun c2 hf => ?_)
    · refine ab_aload_n (x := _) (pc2 := 45) dX9_newDeed_44 rfl rfl ?_
      refine ab_iload_n (pc2 := 46) dX9_newDeed_45 rfl rfl ?_
      refine ab_iconst (pc2 := 47) (v := 1) dX9_newDeed_46 rfl ab_k_iconst_1 ?_
      refine ab_iadd (pc2 := 48) dX9_newDeed_47 rfl ?_
      obtain ⟨q3, hq3, hf⟩ := ab_bind hf
      obtain ⟨w4, ew4, hf⟩ := ab_bind hf
      refine ab_callV (pc2 := 51) (st := []) hq3 (T_i1 q3 hq3) (by decide) (m_X6_read (d := (d + 2)) (T_i1 q3 hq3) ew4) mf_X6_read tw_25 tw_24 ts_X6_read (Or.inl (by decide +kernel)) dX9_newDeed_48 rfl (by omega) (by omega) (by omega) rfl (Nat.le_of_ble_eq_true rfl) (fun v u hp => ?_)
      obtain ⟨rfl, rfl⟩ := hp
      show ab_T _ _ _ _ c s 51 _ (.int _ :: []) _ _
      refine ab_bipush (pc2 := 53) (v := 97) dX9_newDeed_51 rfl ab_k_bipush_97 ?_
      refine ab_isub (pc2 := 54) dX9_newDeed_53 rfl ?_
      refine ab_istore (pc2 := 56) (lo2 := [some (va_rf _), some (va_rf _), some (.int _), some (.int _), some (.int _), some (.int _), none, none, none]) dX9_newDeed_54 rfl (by decide) rfl ?_
      refine ab_iload_n (pc2 := 57) dX9_newDeed_56 rfl rfl ?_
      refine ab_iconst (pc2 := 58) (v := 2) dX9_newDeed_57 rfl ab_k_iconst_2 ?_
      refine ab_iadd (pc2 := 59) dX9_newDeed_58 rfl ?_
      refine ab_istore (pc2 := 61) (lo2 := [some (va_rf _), some (va_rf _), some (.int _), some (.int _), some (.int _), some (.int _), some (.int _), none, none]) dX9_newDeed_59 rfl (by decide) rfl ?_
      refine ab_aload_n (x := _) (pc2 := 62) dX9_newDeed_61 rfl rfl ?_
      refine ab_iload (pc2 := 64) dX9_newDeed_62 rfl rfl ?_
      obtain ⟨w5, ew5, hf⟩ := ab_bind hf
      refine ab_callS (pc2 := 67) (st := []) (m_X9_number (d := (d + 1)) T_i1 ew5) mf_X9_number tw_58 tw_59 dX9_newDeed_64 rfl (by omega) (by omega) (by omega) rfl (Nat.le_of_ble_eq_true rfl) (fun v u hp => ?_)
      obtain ⟨rfl, rfl⟩ := hp
      show ab_T _ _ _ _ c s 67 _ (.int _ :: []) _ _
      refine ab_istore (pc2 := 69) (lo2 := [some (va_rf _), some (va_rf _), some (.int _), some (.int _), some (.int _), some (.int _), some (.int _), some (.int _), none]) dX9_newDeed_67 rfl (by decide) rfl ?_
      refine ab_aload_n (x := _) (pc2 := 70) dX9_newDeed_69 rfl rfl ?_
      refine ab_aload_n (x := _) (pc2 := 71) dX9_newDeed_70 rfl rfl ?_
      refine ab_iload (pc2 := 73) dX9_newDeed_71 rfl rfl ?_
      refine ab_iconst (pc2 := 74) (v := 2) dX9_newDeed_73 rfl ab_k_iconst_2 ?_
      obtain ⟨w6, ew6, hf⟩ := ab_bind hf
      refine ab_callS (pc2 := 77) (st := [_]) (m_X9_behindNumber (d := (d + 0)) T_i1 ew6) mf_X9_behindNumber tw_40 tw_41 dX9_newDeed_74 rfl (by omega) (by omega) (by omega) rfl (Nat.le_of_ble_eq_true rfl) (fun v u hp => ?_)
      obtain ⟨rfl, rfl⟩ := hp
      show ab_T _ _ _ _ c s 77 _ (.int _ :: [_]) _ _
      refine ab_iconst (pc2 := 78) (v := 1) dX9_newDeed_77 rfl ab_k_iconst_1 ?_
      refine ab_iadd (pc2 := 79) dX9_newDeed_78 rfl ?_
      obtain ⟨w7, ew7, hf⟩ := ab_bind hf
      refine ab_callS (pc2 := 82) (st := []) (m_X9_number (d := (d + 1)) T_i1 ew7) mf_X9_number tw_58 tw_59 dX9_newDeed_79 rfl (by omega) (by omega) (by omega) rfl (Nat.le_of_ble_eq_true rfl) (fun v u hp => ?_)
      obtain ⟨rfl, rfl⟩ := hp
      show ab_T _ _ _ _ c s 82 _ (.int _ :: []) _ _
      refine ab_istore (pc2 := 84) (lo2 := [some (va_rf _), some (va_rf _), some (.int _), some (.int _), some (.int _), some (.int _), some (.int _), some (.int _), some (.int _)]) dX9_newDeed_82 rfl (by decide) rfl ?_
      refine ab_aload_n (x := _) (pc2 := 85) dX9_newDeed_84 rfl rfl ?_
      refine ab_iload_n (pc2 := 86) dX9_newDeed_85 rfl rfl ?_
      obtain ⟨w8, ew8, hf⟩ := ab_bind hf
      refine ab_callS (pc2 := 89) (st := []) (m_X9_number (d := (d + 1)) T_i1 ew8) mf_X9_number tw_58 tw_59 dX9_newDeed_86 rfl (by omega) (by omega) (by omega) rfl (Nat.le_of_ble_eq_true rfl) (fun v u hp => ?_)
      obtain ⟨rfl, rfl⟩ := hp
      show ab_T _ _ _ _ c s 89 _ (.int _ :: []) _ _
      rcases ab_cas hf with ⟨s9, hf⟩ | ⟨s9, hf⟩
      · refine ab_tswK (tgt := 136) dX9_newDeed_89 s9 (by decide) (by decide) (by decide +kernel) (by decide) ?_
        obtain ⟨b10, hf⟩ := ab_guard hf
        have hf := ab_let_e hf
        refine ab_new (pc2 := 139) nf_X9_9 b10 (by omega) (by omega) dX9_newDeed_136 rfl ?_
        refine ab_dup (pc2 := 140) dX9_newDeed_139 rfl (ab_rf1 _) ?_
        refine ab_aload_n (x := _) (pc2 := 141) dX9_newDeed_140 rfl rfl ?_
        refine ab_getI (pc2 := 144) rfl ht0 fa_X9_28 (by decide) dX9_newDeed_141 rfl ?_
        refine ab_iload (pc2 := 146) dX9_newDeed_144 rfl rfl ?_
        refine ab_iload (pc2 := 148) dX9_newDeed_146 rfl rfl ?_
        refine ab_iload (pc2 := 150) dX9_newDeed_148 rfl rfl ?_
        refine ab_iload (pc2 := 152) dX9_newDeed_150 rfl rfl ?_
        obtain ⟨w12, ew12, hf⟩ := ab_bind hf
        refine ab_callI (pc2 := 155) (st := [_]) (m_X1_init (d := (d + 2)) b10 ew12) mf_X1_init rfl rfl tw_60 tw_47 dX9_newDeed_152 rfl (by omega) (by omega) (by omega) rfl (Nat.le_of_ble_eq_true rfl) (fun v u hp => ?_)
        obtain ⟨rfl, rfl⟩ := hp
        show ab_T _ _ _ _ (c + 1) (s + 14) 155 _ ([_]) _ _
        cases Option.some.inj hf
        exact ab_retA dX9_newDeed_155 ⟨_, rfl⟩ (by omega) (by omega) ⟨rfl, rfl, (ab_ty1 b10)⟩
      rcases ab_cas hf with ⟨s13, hf⟩ | ⟨s13, hf⟩
      · refine ab_tswK (tgt := 156) dX9_newDeed_89 s13 (by decide) (by decide) (by decide +kernel) (by decide) ?_
        obtain ⟨b14, hf⟩ := ab_guard hf
        have hf := ab_let_e hf
        refine ab_new (pc2 := 159) nf_X9_124 b14 (by omega) (by omega) dX9_newDeed_156 rfl ?_
        refine ab_dup (pc2 := 160) dX9_newDeed_159 rfl (ab_rf1 _) ?_
        refine ab_aload_n (x := _) (pc2 := 161) dX9_newDeed_160 rfl rfl ?_
        refine ab_getI (pc2 := 164) rfl ht0 fa_X9_28 (by decide) dX9_newDeed_161 rfl ?_
        refine ab_iload (pc2 := 166) dX9_newDeed_164 rfl rfl ?_
        refine ab_iload (pc2 := 168) dX9_newDeed_166 rfl rfl ?_
        refine ab_iload (pc2 := 170) dX9_newDeed_168 rfl rfl ?_
        refine ab_iload (pc2 := 172) dX9_newDeed_170 rfl rfl ?_
        obtain ⟨w16, ew16, hf⟩ := ab_bind hf
        refine ab_callI (pc2 := 175) (st := [_]) (m_X4_init (d := (d + 1)) b14 ew16) mf_X4_init rfl rfl tw_61 tw_53 dX9_newDeed_172 rfl (by omega) (by omega) (by omega) rfl (Nat.le_of_ble_eq_true rfl) (fun v u hp => ?_)
        obtain ⟨rfl, rfl⟩ := hp
        show ab_T _ _ _ _ (c + 1) (s + 14) 175 _ ([_]) _ _
        cases Option.some.inj hf
        exact ab_retA dX9_newDeed_175 ⟨_, rfl⟩ (by omega) (by omega) ⟨rfl, rfl, (ab_ty1 b14)⟩
      rcases ab_cas hf with ⟨s17, hf⟩ | ⟨s17, hf⟩
      · refine ab_tswK (tgt := 176) dX9_newDeed_89 s17 (by decide) (by decide) (by decide +kernel) (by decide) ?_
        obtain ⟨b18, hf⟩ := ab_guard hf
        have hf := ab_let_e hf
        refine ab_new (pc2 := 179) nf_X9_127 b18 (by omega) (by omega) dX9_newDeed_176 rfl ?_
        refine ab_dup (pc2 := 180) dX9_newDeed_179 rfl (ab_rf1 _) ?_
        refine ab_aload_n (x := _) (pc2 := 181) dX9_newDeed_180 rfl rfl ?_
        refine ab_getI (pc2 := 184) rfl ht0 fa_X9_28 (by decide) dX9_newDeed_181 rfl ?_
        refine ab_iload (pc2 := 186) dX9_newDeed_184 rfl rfl ?_
        refine ab_iload (pc2 := 188) dX9_newDeed_186 rfl rfl ?_
        refine ab_iload (pc2 := 190) dX9_newDeed_188 rfl rfl ?_
        refine ab_iload (pc2 := 192) dX9_newDeed_190 rfl rfl ?_
        obtain ⟨w20, ew20, hf⟩ := ab_bind hf
        refine ab_callI (pc2 := 195) (st := [_]) (m_X7_init (d := (d + 1)) b18 ew20) mf_X7_init rfl rfl tw_62 tw_50 dX9_newDeed_192 rfl (by omega) (by omega) (by omega) rfl (Nat.le_of_ble_eq_true rfl) (fun v u hp => ?_)
        obtain ⟨rfl, rfl⟩ := hp
        show ab_T _ _ _ _ (c + 1) (s + 14) 195 _ ([_]) _ _
        cases Option.some.inj hf
        exact ab_retA dX9_newDeed_195 ⟨_, rfl⟩ (by omega) (by omega) ⟨rfl, rfl, (ab_ty1 b18)⟩
      rcases ab_cas hf with ⟨s21, hf⟩ | ⟨s21, hf⟩
      · refine ab_tswK (tgt := 196) dX9_newDeed_89 s21 (by decide) (by decide) (by decide +kernel) (by decide) ?_
        obtain ⟨b22, hf⟩ := ab_guard hf
        have hf := ab_let_e hf
        refine ab_new (pc2 := 199) nf_X9_130 b22 (by omega) (by omega) dX9_newDeed_196 rfl ?_
        refine ab_dup (pc2 := 200) dX9_newDeed_199 rfl (ab_rf1 _) ?_
        refine ab_aload_n (x := _) (pc2 := 201) dX9_newDeed_200 rfl rfl ?_
        refine ab_getI (pc2 := 204) rfl ht0 fa_X9_28 (by decide) dX9_newDeed_201 rfl ?_
        refine ab_iload (pc2 := 206) dX9_newDeed_204 rfl rfl ?_
        refine ab_iload (pc2 := 208) dX9_newDeed_206 rfl rfl ?_
        refine ab_iload (pc2 := 210) dX9_newDeed_208 rfl rfl ?_
        refine ab_iload (pc2 := 212) dX9_newDeed_210 rfl rfl ?_
        obtain ⟨w24, ew24, hf⟩ := ab_bind hf
        refine ab_callI (pc2 := 215) (st := [_]) (m_X2_init (d := (d + 0)) b22 ew24) mf_X2_init rfl rfl tw_64 tw_63 dX9_newDeed_212 rfl (by omega) (by omega) (by omega) rfl (Nat.le_of_ble_eq_true rfl) (fun v u hp => ?_)
        obtain ⟨rfl, rfl⟩ := hp
        show ab_T _ _ _ _ (c + 1) (s + 14) 215 _ ([_]) _ _
        cases Option.some.inj hf
        exact ab_retA dX9_newDeed_215 ⟨_, rfl⟩ (by omega) (by omega) ⟨rfl, rfl, (ab_ty1 b22)⟩
      rcases ab_cas hf with ⟨s25, hf⟩ | ⟨s25, hf⟩
      · refine ab_tswK (tgt := 216) dX9_newDeed_89 s25 (by decide) (by decide) (by decide +kernel) (by decide) ?_
        obtain ⟨b26, hf⟩ := ab_guard hf
        have hf := ab_let_e hf
        refine ab_new (pc2 := 219) nf_X9_133 b26 (by omega) (by omega) dX9_newDeed_216 rfl ?_
        refine ab_dup (pc2 := 220) dX9_newDeed_219 rfl (ab_rf1 _) ?_
        refine ab_aload_n (x := _) (pc2 := 221) dX9_newDeed_220 rfl rfl ?_
        refine ab_getI (pc2 := 224) rfl ht0 fa_X9_28 (by decide) dX9_newDeed_221 rfl ?_
        refine ab_iload (pc2 := 226) dX9_newDeed_224 rfl rfl ?_
        refine ab_iload (pc2 := 228) dX9_newDeed_226 rfl rfl ?_
        refine ab_iload (pc2 := 230) dX9_newDeed_228 rfl rfl ?_
        refine ab_iload (pc2 := 232) dX9_newDeed_230 rfl rfl ?_
        obtain ⟨w28, ew28, hf⟩ := ab_bind hf
        refine ab_callI (pc2 := 235) (st := [_]) (m_X5_init (d := (d + 1)) b26 ew28) mf_X5_init rfl rfl tw_65 tw_56 dX9_newDeed_232 rfl (by omega) (by omega) (by omega) rfl (Nat.le_of_ble_eq_true rfl) (fun v u hp => ?_)
        obtain ⟨rfl, rfl⟩ := hp
        show ab_T _ _ _ _ (c + 1) (s + 14) 235 _ ([_]) _ _
        cases Option.some.inj hf
        exact ab_retA dX9_newDeed_235 ⟨_, rfl⟩ (by omega) (by omega) ⟨rfl, rfl, (ab_ty1 b26)⟩
      rcases ab_cas hf with ⟨s29, hf⟩ | ⟨s29, hf⟩
      · refine ab_tswK (tgt := 236) dX9_newDeed_89 s29 (by decide) (by decide) (by decide +kernel) (by decide) ?_
        obtain ⟨b30, hf⟩ := ab_guard hf
        have hf := ab_let_e hf
        refine ab_new (pc2 := 239) nf_X9_136 b30 (by omega) (by omega) dX9_newDeed_236 rfl ?_
        refine ab_dup (pc2 := 240) dX9_newDeed_239 rfl (ab_rf1 _) ?_
        refine ab_aload_n (x := _) (pc2 := 241) dX9_newDeed_240 rfl rfl ?_
        refine ab_getI (pc2 := 244) rfl ht0 fa_X9_28 (by decide) dX9_newDeed_241 rfl ?_
        refine ab_iload (pc2 := 246) dX9_newDeed_244 rfl rfl ?_
        refine ab_iload (pc2 := 248) dX9_newDeed_246 rfl rfl ?_
        refine ab_iload (pc2 := 250) dX9_newDeed_248 rfl rfl ?_
        refine ab_iload (pc2 := 252) dX9_newDeed_250 rfl rfl ?_
        obtain ⟨w32, ew32, hf⟩ := ab_bind hf
        refine ab_callI (pc2 := 255) (st := [_]) (m_X0_init (d := (d + 0)) b30 ew32) mf_X0_init rfl rfl tw_67 tw_66 dX9_newDeed_252 rfl (by omega) (by omega) (by omega) rfl (Nat.le_of_ble_eq_true rfl) (fun v u hp => ?_)
        obtain ⟨rfl, rfl⟩ := hp
        show ab_T _ _ _ _ (c + 1) (s + 14) 255 _ ([_]) _ _
        cases Option.some.inj hf
        exact ab_retA dX9_newDeed_255 ⟨_, rfl⟩ (by omega) (by omega) ⟨rfl, rfl, (ab_ty1 b30)⟩
      rcases ab_cas hf with ⟨s33, hf⟩ | ⟨s33, hf⟩
      · refine ab_tswK (tgt := 256) dX9_newDeed_89 s33 (by decide) (by decide) (by decide +kernel) (by decide) ?_
        obtain ⟨b34, hf⟩ := ab_guard hf
        have hf := ab_let_e hf
        refine ab_new (pc2 := 259) nf_X9_139 b34 (by omega) (by omega) dX9_newDeed_256 rfl ?_
        refine ab_dup (pc2 := 260) dX9_newDeed_259 rfl (ab_rf1 _) ?_
        refine ab_aload_n (x := _) (pc2 := 261) dX9_newDeed_260 rfl rfl ?_
        refine ab_getI (pc2 := 264) rfl ht0 fa_X9_28 (by decide) dX9_newDeed_261 rfl ?_
        refine ab_iload (pc2 := 266) dX9_newDeed_264 rfl rfl ?_
        refine ab_iload (pc2 := 268) dX9_newDeed_266 rfl rfl ?_
        refine ab_iload (pc2 := 270) dX9_newDeed_268 rfl rfl ?_
        refine ab_iload (pc2 := 272) dX9_newDeed_270 rfl rfl ?_
        obtain ⟨w36, ew36, hf⟩ := ab_bind hf
        refine ab_callI (pc2 := 275) (st := [_]) (m_X3_init (d := (d + 1)) b34 ew36) mf_X3_init rfl rfl tw_69 tw_68 dX9_newDeed_272 rfl (by omega) (by omega) (by omega) rfl (Nat.le_of_ble_eq_true rfl) (fun v u hp => ?_)
        obtain ⟨rfl, rfl⟩ := hp
        show ab_T _ _ _ _ (c + 1) (s + 14) 275 _ ([_]) _ _
        cases Option.some.inj hf
        exact ab_retA dX9_newDeed_275 ⟨_, rfl⟩ (by omega) (by omega) ⟨rfl, rfl, (ab_ty1 b34)⟩
      rcases ab_cas hf with ⟨s37, hf⟩ | ⟨s37, hf⟩
      · refine ab_tswK (tgt := 276) dX9_newDeed_89 s37 (by decide) (by decide) (by decide +kernel) (by decide) ?_
        obtain ⟨b38, hf⟩ := ab_guard hf
        have hf := ab_let_e hf
        refine ab_new (pc2 := 279) nf_X9_142 b38 (by omega) (by omega) dX9_newDeed_276 rfl ?_
        refine ab_dup (pc2 := 280) dX9_newDeed_279 rfl (ab_rf1 _) ?_
        refine ab_aload_n (x := _) (pc2 := 281) dX9_newDeed_280 rfl rfl ?_
        refine ab_getI (pc2 := 284) rfl ht0 fa_X9_28 (by decide) dX9_newDeed_281 rfl ?_
        refine ab_iload (pc2 := 286) dX9_newDeed_284 rfl rfl ?_
        refine ab_iload (pc2 := 288) dX9_newDeed_286 rfl rfl ?_
        refine ab_iload (pc2 := 290) dX9_newDeed_288 rfl rfl ?_
        refine ab_iload (pc2 := 292) dX9_newDeed_290 rfl rfl ?_
        obtain ⟨w40, ew40, hf⟩ := ab_bind hf
        refine ab_callI (pc2 := 295) (st := [_]) (m_X8_init (d := (d + 0)) b38 ew40) mf_X8_init rfl rfl tw_71 tw_70 dX9_newDeed_292 rfl (by omega) (by omega) (by omega) rfl (Nat.le_of_ble_eq_true rfl) (fun v u hp => ?_)
        obtain ⟨rfl, rfl⟩ := hp
        show ab_T _ _ _ _ (c + 1) (s + 14) 295 _ ([_]) _ _
        cases Option.some.inj hf
        exact ab_retA dX9_newDeed_295 ⟨_, rfl⟩ (by omega) (by omega) ⟨rfl, rfl, (ab_ty1 b38)⟩
      have s9n := lv_neT s9 (by decide : (0 : Int32).toInt = 0)
      have s13n := lv_neT s13 (by decide : (1 : Int32).toInt = 1)
      have s17n := lv_neT s17 (by decide : (2 : Int32).toInt = 2)
      have s21n := lv_neT s21 (by decide : (3 : Int32).toInt = 3)
      have s25n := lv_neT s25 (by decide : (4 : Int32).toInt = 4)
      have s29n := lv_neT s29 (by decide : (5 : Int32).toInt = 5)
      have s33n := lv_neT s33 (by decide : (6 : Int32).toInt = 6)
      have s37n := lv_neT s37 (by decide : (7 : Int32).toInt = 7)
      refine ab_tswOut (tgt := 296) dX9_newDeed_89 (by omega) (by decide) ?_
      refine ab_null (pc2 := 297) dX9_newDeed_296 rfl ?_
      cases Option.some.inj hf
      exact ab_retA dX9_newDeed_297 ⟨_, rfl⟩ (by omega) (by omega) ⟨rfl, rfl, (fun z hz => by cases hz)⟩
    · refine ab_iload (pc2 := 24) dX9_newDeed_22 rfl rfl ?_
      refine ab_iconst (pc2 := 25) (v := 1) dX9_newDeed_24 rfl ab_k_iconst_1 ?_
      refine ab_aload_n (x := _) (pc2 := 26) dX9_newDeed_25 rfl rfl ?_
      refine ab_iload (pc2 := 28) dX9_newDeed_26 rfl rfl ?_
      obtain ⟨q41, hq41, hf⟩ := ab_bind hf
      obtain ⟨w42, ew42, hf⟩ := ab_bind hf
      refine ab_callV (pc2 := 31) (st := [_, _]) hq41 (T_i1 q41 hq41) (by decide) (m_X6_read (d := (d + 2)) (T_i1 q41 hq41) ew42) mf_X6_read tw_25 tw_24 ts_X6_read (Or.inl (by decide +kernel)) dX9_newDeed_28 rfl (by omega) (by omega) (by omega) rfl (Nat.le_of_ble_eq_true rfl) (fun v u hp => ?_)
      obtain ⟨rfl, rfl⟩ := hp
      show ab_T _ _ _ _ c s 31 _ (.int _ :: [_, _]) _ _
      refine ab_bipush (pc2 := 33) (v := 97) dX9_newDeed_31 rfl ab_k_bipush_97 ?_
      refine ab_isub (pc2 := 34) dX9_newDeed_33 rfl ?_
      refine ab_ishl (pc2 := 35) dX9_newDeed_34 rfl ?_
      refine ab_ior (pc2 := 36) dX9_newDeed_35 rfl ?_
      have hf := ab_let_e hf
      refine ab_istore (pc2 := 38) (lo2 := [some (va_rf _), some (va_rf _), some (.int _), some (.int _), some (.int _), some (.int _), none, none, none]) dX9_newDeed_36 rfl (by decide) rfl ?_
      refine ab_iinc (pc2 := 41) (v := _ + 1) (lo2 := [some (va_rf _), some (va_rf _), some (.int _), some (.int _), some (.int _), some (.int _), none, none, none]) dX9_newDeed_38 rfl rfl rfl (by decide) rfl ?_
      refine ab_goto (tgt := 16) dX9_newDeed_41 (by decide) ?_
      exact ab_weak (ih _ _ _ _ _ _ _ _ (by omega) (by omega) T_i1 hf) (ab_leS (ab_leS (ab_leS (ab_leS (ab_leS (ab_leS (ab_leN (ab_leN (ab_leN ab_le0)))))))))
set_option maxHeartbeats 4000000 in
set_option maxRecDepth 100000 in
theorem x_X9_newDeed {d : Nat} {t0 : Nat} {i1 : Option Nat} {i2 : Int32} {h : ab_HP} {r : ((Option Nat) × ab_HP)} (ht0 : (ab_shp t0).1 = 1) (T_i1 : ∀ z, i1 = some z → (ab_shp z).1 = 3) (hf : f_X9_newDeed t0 i1 i2 h = some r) : ab_T mX9_newDeed (d + 4) 1 14 0 0 0 [some (va_rf (some t0)), some (va_rf i1), some (.int i2), none, none, none, none, none, none] [] h (ab_Pr 4 r.1 r.2) := by
  unfold f_X9_newDeed at hf
  refine ab_aload_n (x := _) (pc2 := 1) dX9_newDeed_0 rfl rfl ?_
  refine ab_iload_n (pc2 := 2) dX9_newDeed_1 rfl rfl ?_
  refine ab_iconst (pc2 := 3) (v := 1) dX9_newDeed_2 rfl ab_k_iconst_1 ?_
  refine ab_iadd (pc2 := 4) dX9_newDeed_3 rfl ?_
  obtain ⟨w1, ew1, hf⟩ := ab_bind hf
  refine ab_callS (pc2 := 7) (st := []) (m_X9_behindNeeds (d := (d + 1)) T_i1 ew1) mf_X9_behindNeeds tw_34 tw_35 dX9_newDeed_4 rfl (by omega) (by omega) (by omega) rfl (Nat.le_of_ble_eq_true rfl) (fun v u hp => ?_)
  obtain ⟨rfl, rfl⟩ := hp
  show ab_T _ _ _ _ 0 0 7 _ (.int _ :: []) _ _
  refine ab_istore_n (pc2 := 8) (lo2 := [some (va_rf _), some (va_rf _), some (.int _), some (.int _), none, none, none, none, none]) dX9_newDeed_7 rfl (by decide) rfl ?_
  refine ab_iconst (pc2 := 9) (v := 0) dX9_newDeed_8 rfl ab_k_iconst_0 ?_
  refine ab_istore (pc2 := 11) (lo2 := [some (va_rf _), some (va_rf _), some (.int _), some (.int _), some (.int _), none, none, none, none]) dX9_newDeed_9 rfl (by decide) rfl ?_
  refine ab_iload_n (pc2 := 12) dX9_newDeed_11 rfl rfl ?_
  refine ab_iconst (pc2 := 13) (v := 1) dX9_newDeed_12 rfl ab_k_iconst_1 ?_
  refine ab_iadd (pc2 := 14) dX9_newDeed_13 rfl ?_
  refine ab_istore (pc2 := 16) (lo2 := [some (va_rf _), some (va_rf _), some (.int _), some (.int _), some (.int _), some (.int _), none, none, none]) dX9_newDeed_14 rfl (by decide) rfl ?_
  exact ab_weak (x_X9_newDeed_l16 ht0 _ _ _ _ _ _ _ _ _ (by omega) (by omega) T_i1 hf) (ab_leS (ab_leS (ab_leS (ab_leS (ab_leS (ab_leS (ab_leN (ab_leN (ab_leN ab_le0)))))))))
set_option maxHeartbeats 4000000 in
set_option maxRecDepth 100000 in
theorem m_X9_newDeed {d : Nat} {t0 : Nat} {i1 : Option Nat} {i2 : Int32} {h : ab_HP} {r : ((Option Nat) × ab_HP)} (ht0 : (ab_shp t0).1 = 1) (T_i1 : ∀ z, i1 = some z → (ab_shp z).1 = 3) (hf : f_X9_newDeed t0 i1 i2 h = some r) : ab_MET mX9_newDeed (d + 4) 1 14 [va_rf (some t0), va_rf i1, .int i2] h (ab_Pr 4 r.1 r.2) := ab_met (by decide +kernel) (by decide +kernel) (by simp [ab_lo, ab_rf1, Value.category]) (by simp [ab_lo0, ab_lo, ab_rf1, Value.category, List.replicate]) (x_X9_newDeed ht0 T_i1 hf)
set_option maxHeartbeats 4000000 in
set_option maxRecDepth 100000 in
theorem x_X9_takeDeed {d : Nat} {t0 : Nat} {i1 : Option Nat} {h : ab_HP} {r : (Int32 × ab_HP)} (ht0 : (ab_shp t0).1 = 1) (T_i1 : ∀ z, i1 = some z → (ab_shp z).1 = 4) (hf : f_X9_takeDeed t0 i1 h = some r) : ab_T mX9_takeDeed (d + 0) 0 0 0 0 0 [some (va_rf (some t0)), some (va_rf i1)] [] h (ab_Pb r.1 r.2) := by
  unfold f_X9_takeDeed at hf
  refine ab_aload_n (x := _) (pc2 := 1) dX9_takeDeed_0 rfl rfl ?_
  refine ab_nul (tgt := 16) (pc2 := 4) dX9_takeDeed_1 (by decide) rfl hf (fun hq1 hf => ?_) (fun q1 hq1 hf => ?_)
  · refine ab_iconst (pc2 := 17) (v := 0) dX9_takeDeed_16 rfl ab_k_iconst_0 ?_
    cases Option.some.inj hf
    exact ab_retI dX9_takeDeed_17 (Or.inr ⟨rfl, (Or.inl rfl)⟩) (Nat.le_refl _) (Nat.le_refl _) ⟨rfl, rfl, (Or.inl rfl)⟩
  · refine ab_aload_n (x := _) (pc2 := 5) dX9_takeDeed_4 rfl rfl ?_
    refine ab_getI (pc2 := 8) rfl ht0 fa_X9_28 (by decide) dX9_takeDeed_5 rfl ?_
    refine ab_aload_n (x := _) (pc2 := 9) dX9_takeDeed_8 rfl rfl ?_
    refine ab_getR (pc2 := 12) rfl ht0 fa_X9_11 dX9_takeDeed_9 rfl (fun T2 => ?_)
    obtain ⟨q3, hq3, hf⟩ := ab_bind hf
    refine ab_alen (pc2 := 13) hq3 (Or.inr (Or.inl (T2 q3 hq3))) dX9_takeDeed_12 rfl ?_
    refine ab_icmp_lt (tgt := 18) (pc2 := 16) dX9_takeDeed_13 (by decide) rfl hf (fun c4 hf => ?_) (fun c4 hf => ?_)
    · refine ab_aload_n (x := _) (pc2 := 19) dX9_takeDeed_18 rfl rfl ?_
      refine ab_getR (pc2 := 22) rfl ht0 fa_X9_11 dX9_takeDeed_19 rfl (fun T5 => ?_)
      refine ab_aload_n (x := _) (pc2 := 23) dX9_takeDeed_22 rfl rfl ?_
      refine ab_getI (pc2 := 26) rfl ht0 fa_X9_28 (by decide) dX9_takeDeed_23 rfl ?_
      refine ab_aload_n (x := _) (pc2 := 27) dX9_takeDeed_26 rfl rfl ?_
      obtain ⟨q6, hq6, hf⟩ := ab_bind hf
      obtain ⟨b7, hf⟩ := ab_guard hf
      have hf := ab_let_e hf
      refine ab_aast (pc2 := 28) hq6 (T5 q6 hq6) (Or.inl rfl) T_i1 (ab_in_vp b7) dX9_takeDeed_27 rfl ?_
      refine ab_aload_n (x := _) (pc2 := 29) dX9_takeDeed_28 rfl rfl ?_
      refine ab_dup (pc2 := 30) dX9_takeDeed_29 rfl (ab_rf1 _) ?_
      refine ab_getI (pc2 := 33) rfl ht0 fa_X9_28 (by decide) dX9_takeDeed_30 rfl ?_
      refine ab_iconst (pc2 := 34) (v := 1) dX9_takeDeed_33 rfl ab_k_iconst_1 ?_
      refine ab_iadd (pc2 := 35) dX9_takeDeed_34 rfl ?_
      have hf := ab_let_e hf
      refine ab_putI (pc2 := 38) rfl ht0 fa_X9_28 (Or.inl rfl) (fun z => by cases z) dX9_takeDeed_35 rfl ?_
      refine ab_iconst (pc2 := 39) (v := 1) dX9_takeDeed_38 rfl ab_k_iconst_1 ?_
      cases Option.some.inj hf
      exact ab_retI dX9_takeDeed_39 (Or.inr ⟨rfl, (Or.inr rfl)⟩) (Nat.le_refl _) (Nat.le_refl _) ⟨rfl, rfl, (Or.inr rfl)⟩
    · refine ab_iconst (pc2 := 17) (v := 0) dX9_takeDeed_16 rfl ab_k_iconst_0 ?_
      cases Option.some.inj hf
      exact ab_retI dX9_takeDeed_17 (Or.inr ⟨rfl, (Or.inl rfl)⟩) (Nat.le_refl _) (Nat.le_refl _) ⟨rfl, rfl, (Or.inl rfl)⟩
set_option maxHeartbeats 4000000 in
set_option maxRecDepth 100000 in
theorem m_X9_takeDeed {d : Nat} {t0 : Nat} {i1 : Option Nat} {h : ab_HP} {r : (Int32 × ab_HP)} (ht0 : (ab_shp t0).1 = 1) (T_i1 : ∀ z, i1 = some z → (ab_shp z).1 = 4) (hf : f_X9_takeDeed t0 i1 h = some r) : ab_MET mX9_takeDeed (d + 0) 0 0 [va_rf (some t0), va_rf i1] h (ab_Pb r.1 r.2) := ab_met (by decide +kernel) (by decide +kernel) (by simp [ab_lo, ab_rf1, Value.category]) (by simp [ab_lo0, ab_lo, ab_rf1, Value.category, List.replicate]) (x_X9_takeDeed ht0 T_i1 hf)
set_option maxHeartbeats 4000000 in
set_option maxRecDepth 100000 in
theorem x_X9_takeMark {d : Nat} {t0 : Nat} {i1 : Int32} {h : ab_HP} {r : (Int32 × ab_HP)} (ht0 : (ab_shp t0).1 = 1) (hf : f_X9_takeMark t0 i1 h = some r) : ab_T mX9_takeMark (d + 0) 0 0 0 0 0 [some (va_rf (some t0)), some (.int i1)] [] h (ab_Pb r.1 r.2) := by
  unfold f_X9_takeMark at hf
  refine ab_aload_n (x := _) (pc2 := 1) dX9_takeMark_0 rfl rfl ?_
  refine ab_getI (pc2 := 4) rfl ht0 fa_X9_31 (by decide) dX9_takeMark_1 rfl ?_
  refine ab_iload_n (pc2 := 5) dX9_takeMark_4 rfl rfl ?_
  refine ab_ishr (pc2 := 6) dX9_takeMark_5 rfl ?_
  refine ab_iconst (pc2 := 7) (v := 1) dX9_takeMark_6 rfl ab_k_iconst_1 ?_
  refine ab_iand (pc2 := 8) dX9_takeMark_7 rfl ?_
  refine ab_if_eq (tgt := 13) (pc2 := 11) dX9_takeMark_8 (by decide) rfl hf (fun c1 hf => ?_) (fun c1 hf => ?_)
  · refine ab_aload_n (x := _) (pc2 := 14) dX9_takeMark_13 rfl rfl ?_
    refine ab_dup (pc2 := 15) dX9_takeMark_14 rfl (ab_rf1 _) ?_
    refine ab_getI (pc2 := 18) rfl ht0 fa_X9_31 (by decide) dX9_takeMark_15 rfl ?_
    refine ab_iconst (pc2 := 19) (v := 1) dX9_takeMark_18 rfl ab_k_iconst_1 ?_
    refine ab_iload_n (pc2 := 20) dX9_takeMark_19 rfl rfl ?_
    refine ab_ishl (pc2 := 21) dX9_takeMark_20 rfl ?_
    refine ab_ior (pc2 := 22) dX9_takeMark_21 rfl ?_
    have hf := ab_let_e hf
    refine ab_putI (pc2 := 25) rfl ht0 fa_X9_31 (Or.inl rfl) (fun z => by cases z) dX9_takeMark_22 rfl ?_
    refine ab_iconst (pc2 := 26) (v := 1) dX9_takeMark_25 rfl ab_k_iconst_1 ?_
    cases Option.some.inj hf
    exact ab_retI dX9_takeMark_26 (Or.inr ⟨rfl, (Or.inr rfl)⟩) (Nat.le_refl _) (Nat.le_refl _) ⟨rfl, rfl, (Or.inr rfl)⟩
  · refine ab_iconst (pc2 := 12) (v := 0) dX9_takeMark_11 rfl ab_k_iconst_0 ?_
    cases Option.some.inj hf
    exact ab_retI dX9_takeMark_12 (Or.inr ⟨rfl, (Or.inl rfl)⟩) (Nat.le_refl _) (Nat.le_refl _) ⟨rfl, rfl, (Or.inl rfl)⟩
set_option maxHeartbeats 4000000 in
set_option maxRecDepth 100000 in
theorem m_X9_takeMark {d : Nat} {t0 : Nat} {i1 : Int32} {h : ab_HP} {r : (Int32 × ab_HP)} (ht0 : (ab_shp t0).1 = 1) (hf : f_X9_takeMark t0 i1 h = some r) : ab_MET mX9_takeMark (d + 0) 0 0 [va_rf (some t0), .int i1] h (ab_Pb r.1 r.2) := ab_met (by decide +kernel) (by decide +kernel) (Nat.le_of_ble_eq_true rfl) rfl (x_X9_takeMark ht0 hf)
set_option maxHeartbeats 4000000 in
set_option maxRecDepth 100000 in
theorem x_X9_changeCoins {d : Nat} {t0 : Nat} {i1 : Int32} {h : ab_HP} {r : (Int32 × ab_HP)} (ht0 : (ab_shp t0).1 = 1) (hf : f_X9_changeCoins t0 i1 h = some r) : ab_T mX9_changeCoins (d + 0) 0 0 0 0 0 [some (va_rf (some t0)), some (.int i1), none] [] h (ab_Pi r.1 r.2) := by
  unfold f_X9_changeCoins at hf
  refine ab_iload_n (pc2 := 1) dX9_changeCoins_0 rfl rfl ?_
  refine ab_if_lt (tgt := 11) (pc2 := 4) dX9_changeCoins_1 (by decide) rfl hf (fun c1 hf => ?_) (fun c1 hf => ?_)
  · refine ab_iconst (pc2 := 12) (v := (-1)) dX9_changeCoins_11 rfl ab_k_iconst_m1 ?_
    cases Option.some.inj hf
    exact ab_retI dX9_changeCoins_12 (Or.inl rfl) (Nat.le_refl _) (Nat.le_refl _) ⟨rfl, rfl⟩
  · refine ab_iload_n (pc2 := 5) dX9_changeCoins_4 rfl rfl ?_
    refine ab_sipush (pc2 := 8) (v := 9999) dX9_changeCoins_5 rfl ab_k_sipush_9999 ?_
    refine ab_icmp_le (tgt := 13) (pc2 := 11) dX9_changeCoins_8 (by decide) rfl hf (fun c2 hf => ?_) (fun c2 hf => ?_)
    · refine ab_aload_n (x := _) (pc2 := 14) dX9_changeCoins_13 rfl rfl ?_
      refine ab_getI (pc2 := 17) rfl ht0 fa_X9_17 (by decide) dX9_changeCoins_14 rfl ?_
      refine ab_istore_n (pc2 := 18) (lo2 := [some (va_rf _), some (.int _), some (.int _)]) dX9_changeCoins_17 rfl (by decide) rfl ?_
      refine ab_aload_n (x := _) (pc2 := 19) dX9_changeCoins_18 rfl rfl ?_
      refine ab_iload_n (pc2 := 20) dX9_changeCoins_19 rfl rfl ?_
      have hf := ab_let_e hf
      refine ab_putI (pc2 := 23) rfl ht0 fa_X9_17 (Or.inl rfl) (fun z => by cases z) dX9_changeCoins_20 rfl ?_
      refine ab_iload_n (pc2 := 24) dX9_changeCoins_23 rfl rfl ?_
      cases Option.some.inj hf
      exact ab_retI dX9_changeCoins_24 (Or.inl rfl) (Nat.le_refl _) (Nat.le_refl _) ⟨rfl, rfl⟩
    · refine ab_iconst (pc2 := 12) (v := (-1)) dX9_changeCoins_11 rfl ab_k_iconst_m1 ?_
      cases Option.some.inj hf
      exact ab_retI dX9_changeCoins_12 (Or.inl rfl) (Nat.le_refl _) (Nat.le_refl _) ⟨rfl, rfl⟩
set_option maxHeartbeats 4000000 in
set_option maxRecDepth 100000 in
theorem m_X9_changeCoins {d : Nat} {t0 : Nat} {i1 : Int32} {h : ab_HP} {r : (Int32 × ab_HP)} (ht0 : (ab_shp t0).1 = 1) (hf : f_X9_changeCoins t0 i1 h = some r) : ab_MET mX9_changeCoins (d + 0) 0 0 [va_rf (some t0), .int i1] h (ab_Pi r.1 r.2) := ab_met (by decide +kernel) (by decide +kernel) (Nat.le_of_ble_eq_true rfl) rfl (x_X9_changeCoins ht0 hf)
set_option maxHeartbeats 4000000 in
set_option maxRecDepth 100000 in
theorem x_X9_changeNail {d : Nat} {t0 : Nat} {i1 : Int32} {h : ab_HP} {r : (Int32 × ab_HP)} (ht0 : (ab_shp t0).1 = 1) (hf : f_X9_changeNail t0 i1 h = some r) : ab_T mX9_changeNail (d + 0) 0 0 0 0 0 [some (va_rf (some t0)), some (.int i1), none] [] h (ab_Pi r.1 r.2) := by
  unfold f_X9_changeNail at hf
  refine ab_iload_n (pc2 := 1) dX9_changeNail_0 rfl rfl ?_
  refine ab_if_lt (tgt := 10) (pc2 := 4) dX9_changeNail_1 (by decide) rfl hf (fun c1 hf => ?_) (fun c1 hf => ?_)
  · refine ab_iconst (pc2 := 11) (v := (-1)) dX9_changeNail_10 rfl ab_k_iconst_m1 ?_
    cases Option.some.inj hf
    exact ab_retI dX9_changeNail_11 (Or.inl rfl) (Nat.le_refl _) (Nat.le_refl _) ⟨rfl, rfl⟩
  · refine ab_iload_n (pc2 := 5) dX9_changeNail_4 rfl rfl ?_
    refine ab_bipush (pc2 := 7) (v := 99) dX9_changeNail_5 rfl ab_k_bipush_99 ?_
    refine ab_icmp_le (tgt := 12) (pc2 := 10) dX9_changeNail_7 (by decide) rfl hf (fun c2 hf => ?_) (fun c2 hf => ?_)
    · refine ab_aload_n (x := _) (pc2 := 13) dX9_changeNail_12 rfl rfl ?_
      refine ab_getI (pc2 := 16) rfl ht0 fa_X9_21 (by decide) dX9_changeNail_13 rfl ?_
      refine ab_istore_n (pc2 := 17) (lo2 := [some (va_rf _), some (.int _), some (.int _)]) dX9_changeNail_16 rfl (by decide) rfl ?_
      refine ab_aload_n (x := _) (pc2 := 18) dX9_changeNail_17 rfl rfl ?_
      refine ab_iload_n (pc2 := 19) dX9_changeNail_18 rfl rfl ?_
      have hf := ab_let_e hf
      refine ab_putI (pc2 := 22) rfl ht0 fa_X9_21 (Or.inl rfl) (fun z => by cases z) dX9_changeNail_19 rfl ?_
      refine ab_iload_n (pc2 := 23) dX9_changeNail_22 rfl rfl ?_
      cases Option.some.inj hf
      exact ab_retI dX9_changeNail_23 (Or.inl rfl) (Nat.le_refl _) (Nat.le_refl _) ⟨rfl, rfl⟩
    · refine ab_iconst (pc2 := 11) (v := (-1)) dX9_changeNail_10 rfl ab_k_iconst_m1 ?_
      cases Option.some.inj hf
      exact ab_retI dX9_changeNail_11 (Or.inl rfl) (Nat.le_refl _) (Nat.le_refl _) ⟨rfl, rfl⟩
set_option maxHeartbeats 4000000 in
set_option maxRecDepth 100000 in
theorem m_X9_changeNail {d : Nat} {t0 : Nat} {i1 : Int32} {h : ab_HP} {r : (Int32 × ab_HP)} (ht0 : (ab_shp t0).1 = 1) (hf : f_X9_changeNail t0 i1 h = some r) : ab_MET mX9_changeNail (d + 0) 0 0 [va_rf (some t0), .int i1] h (ab_Pi r.1 r.2) := ab_met (by decide +kernel) (by decide +kernel) (Nat.le_of_ble_eq_true rfl) rfl (x_X9_changeNail ht0 hf)
set_option maxHeartbeats 4000000 in
set_option maxRecDepth 100000 in
theorem x_X9_takeNail {d : Nat} {t0 : Nat} {i1 : Option Nat} {i2 : Int32} {h : ab_HP} {r : (Int32 × ab_HP)} (ht0 : (ab_shp t0).1 = 1) (T_i1 : ∀ z, i1 = some z → (ab_shp z).1 = 3) (hf : f_X9_takeNail t0 i1 i2 h = some r) : ab_T mX9_takeNail (d + 4) 0 0 0 0 0 [some (va_rf (some t0)), some (va_rf i1), some (.int i2), none, none] [] h (ab_Pb r.1 r.2) := by
  unfold f_X9_takeNail at hf
  refine ab_aload_n (x := _) (pc2 := 1) dX9_takeNail_0 rfl rfl ?_
  refine ab_iload_n (pc2 := 2) dX9_takeNail_1 rfl rfl ?_
  refine ab_iconst (pc2 := 3) (v := 2) dX9_takeNail_2 rfl ab_k_iconst_2 ?_
  obtain ⟨w1, ew1, hf⟩ := ab_bind hf
  refine ab_callS (pc2 := 6) (st := []) (m_X9_behindNumber (d := (d + 0)) T_i1 ew1) mf_X9_behindNumber tw_40 tw_41 dX9_takeNail_3 rfl (by omega) (Nat.le_refl _) (Nat.le_refl _) rfl (Nat.le_of_ble_eq_true rfl) (fun v u hp => ?_)
  obtain ⟨rfl, rfl⟩ := hp
  show ab_T _ _ _ _ 0 0 6 _ (.int _ :: []) _ _
  refine ab_iconst (pc2 := 7) (v := 1) dX9_takeNail_6 rfl ab_k_iconst_1 ?_
  refine ab_iadd (pc2 := 8) dX9_takeNail_7 rfl ?_
  refine ab_istore_n (pc2 := 9) (lo2 := [some (va_rf _), some (va_rf _), some (.int _), some (.int _), none]) dX9_takeNail_8 rfl (by decide) rfl ?_
  refine ab_aload_n (x := _) (pc2 := 10) dX9_takeNail_9 rfl rfl ?_
  refine ab_iload_n (pc2 := 11) dX9_takeNail_10 rfl rfl ?_
  refine ab_iconst (pc2 := 12) (v := 1) dX9_takeNail_11 rfl ab_k_iconst_1 ?_
  refine ab_iadd (pc2 := 13) dX9_takeNail_12 rfl ?_
  obtain ⟨w2, ew2, hf⟩ := ab_bind hf
  refine ab_callS (pc2 := 16) (st := []) (m_X9_number (d := (d + 1)) T_i1 ew2) mf_X9_number tw_58 tw_59 dX9_takeNail_13 rfl (by omega) (Nat.le_refl _) (Nat.le_refl _) rfl (Nat.le_of_ble_eq_true rfl) (fun v u hp => ?_)
  obtain ⟨rfl, rfl⟩ := hp
  show ab_T _ _ _ _ 0 0 16 _ (.int _ :: []) _ _
  refine ab_istore (pc2 := 18) (lo2 := [some (va_rf _), some (va_rf _), some (.int _), some (.int _), some (.int _)]) dX9_takeNail_16 rfl (by decide) rfl ?_
  refine ab_aload_n (x := _) (pc2 := 19) dX9_takeNail_18 rfl rfl ?_
  refine ab_aload_n (x := _) (pc2 := 20) dX9_takeNail_19 rfl rfl ?_
  refine ab_iload_n (pc2 := 21) dX9_takeNail_20 rfl rfl ?_
  obtain ⟨q3, hq3, hf⟩ := ab_bind hf
  obtain ⟨w4, ew4, hf⟩ := ab_bind hf
  refine ab_callV (pc2 := 24) (st := [_]) hq3 (T_i1 q3 hq3) (by decide) (m_X6_read (d := (d + 2)) (T_i1 q3 hq3) ew4) mf_X6_read tw_25 tw_24 ts_X6_read (Or.inl (by decide +kernel)) dX9_takeNail_21 rfl (by omega) (Nat.le_refl _) (Nat.le_refl _) rfl (Nat.le_of_ble_eq_true rfl) (fun v u hp => ?_)
  obtain ⟨rfl, rfl⟩ := hp
  show ab_T _ _ _ _ 0 0 24 _ (.int _ :: [_]) _ _
  refine ab_bipush (pc2 := 26) (v := 45) dX9_takeNail_24 rfl ab_k_bipush_45 ?_
  refine ab_icmp_ne (tgt := 35) (pc2 := 29) dX9_takeNail_26 (by decide) rfl hf (fun c5 hf => ?_) (fun c5 hf => ?_)
  · refine ab_iload (pc2 := 37) dX9_takeNail_35 rfl rfl ?_
    have hf := ab_let_e hf
    refine ab_putI (pc2 := 40) rfl ht0 fa_X9_37 (Or.inl rfl) (fun z => by cases z) dX9_takeNail_37 rfl ?_
    refine ab_aload_n (x := _) (pc2 := 41) dX9_takeNail_40 rfl rfl ?_
    refine ab_aload_n (x := _) (pc2 := 42) dX9_takeNail_41 rfl rfl ?_
    refine ab_iload_n (pc2 := 43) dX9_takeNail_42 rfl rfl ?_
    obtain ⟨w7, ew7, hf⟩ := ab_bind hf
    refine ab_callS (pc2 := 46) (st := [_]) (m_X9_number (d := (d + 1)) T_i1 ew7) mf_X9_number tw_58 tw_59 dX9_takeNail_43 rfl (by omega) (Nat.le_refl _) (Nat.le_refl _) rfl (Nat.le_of_ble_eq_true rfl) (fun v u hp => ?_)
    obtain ⟨rfl, rfl⟩ := hp
    show ab_T _ _ _ _ 0 0 46 _ (.int _ :: [_]) _ _
    obtain ⟨w8, ew8, hf⟩ := ab_bind hf
    refine ab_callV (pc2 := 49) (st := []) rfl ht0 (by decide) (m_X9_changeNail (d := (d + 3)) ht0 ew8) mf_X9_changeNail tw_73 tw_72 ts_X9_changeNail (Or.inl (by decide +kernel)) dX9_takeNail_46 rfl (by omega) (Nat.le_refl _) (Nat.le_refl _) rfl (Nat.le_of_ble_eq_true rfl) (fun v u hp => ?_)
    obtain ⟨rfl, rfl⟩ := hp
    show ab_T _ _ _ _ 0 0 49 _ (.int _ :: []) _ _
    refine ab_if_lt (tgt := 56) (pc2 := 52) dX9_takeNail_49 (by decide) rfl hf (fun c9 hf => ?_) (fun c9 hf => ?_)
    · refine ab_iconst (pc2 := 57) (v := 0) dX9_takeNail_56 rfl ab_k_iconst_0 ?_
      cases Option.some.inj hf
      exact ab_retI dX9_takeNail_57 (Or.inr ⟨rfl, (Or.inl rfl)⟩) (Nat.le_refl _) (Nat.le_refl _) ⟨rfl, rfl, (Or.inl rfl)⟩
    · refine ab_iconst (pc2 := 53) (v := 1) dX9_takeNail_52 rfl ab_k_iconst_1 ?_
      refine ab_goto (tgt := 57) dX9_takeNail_53 (by decide) ?_
      cases Option.some.inj hf
      exact ab_retI dX9_takeNail_57 (Or.inr ⟨rfl, (Or.inr rfl)⟩) (Nat.le_refl _) (Nat.le_refl _) ⟨rfl, rfl, (Or.inr rfl)⟩
  · refine ab_iload (pc2 := 31) dX9_takeNail_29 rfl rfl ?_
    refine ab_ineg (pc2 := 32) dX9_takeNail_31 rfl ?_
    refine ab_goto (tgt := 37) dX9_takeNail_32 (by decide) ?_
    have hf := ab_let_e hf
    refine ab_putI (pc2 := 40) rfl ht0 fa_X9_37 (Or.inl rfl) (fun z => by cases z) dX9_takeNail_37 rfl ?_
    refine ab_aload_n (x := _) (pc2 := 41) dX9_takeNail_40 rfl rfl ?_
    refine ab_aload_n (x := _) (pc2 := 42) dX9_takeNail_41 rfl rfl ?_
    refine ab_iload_n (pc2 := 43) dX9_takeNail_42 rfl rfl ?_
    obtain ⟨w11, ew11, hf⟩ := ab_bind hf
    refine ab_callS (pc2 := 46) (st := [_]) (m_X9_number (d := (d + 1)) T_i1 ew11) mf_X9_number tw_58 tw_59 dX9_takeNail_43 rfl (by omega) (Nat.le_refl _) (Nat.le_refl _) rfl (Nat.le_of_ble_eq_true rfl) (fun v u hp => ?_)
    obtain ⟨rfl, rfl⟩ := hp
    show ab_T _ _ _ _ 0 0 46 _ (.int _ :: [_]) _ _
    obtain ⟨w12, ew12, hf⟩ := ab_bind hf
    refine ab_callV (pc2 := 49) (st := []) rfl ht0 (by decide) (m_X9_changeNail (d := (d + 3)) ht0 ew12) mf_X9_changeNail tw_73 tw_72 ts_X9_changeNail (Or.inl (by decide +kernel)) dX9_takeNail_46 rfl (by omega) (Nat.le_refl _) (Nat.le_refl _) rfl (Nat.le_of_ble_eq_true rfl) (fun v u hp => ?_)
    obtain ⟨rfl, rfl⟩ := hp
    show ab_T _ _ _ _ 0 0 49 _ (.int _ :: []) _ _
    refine ab_if_lt (tgt := 56) (pc2 := 52) dX9_takeNail_49 (by decide) rfl hf (fun c13 hf => ?_) (fun c13 hf => ?_)
    · refine ab_iconst (pc2 := 57) (v := 0) dX9_takeNail_56 rfl ab_k_iconst_0 ?_
      cases Option.some.inj hf
      exact ab_retI dX9_takeNail_57 (Or.inr ⟨rfl, (Or.inl rfl)⟩) (Nat.le_refl _) (Nat.le_refl _) ⟨rfl, rfl, (Or.inl rfl)⟩
    · refine ab_iconst (pc2 := 53) (v := 1) dX9_takeNail_52 rfl ab_k_iconst_1 ?_
      refine ab_goto (tgt := 57) dX9_takeNail_53 (by decide) ?_
      cases Option.some.inj hf
      exact ab_retI dX9_takeNail_57 (Or.inr ⟨rfl, (Or.inr rfl)⟩) (Nat.le_refl _) (Nat.le_refl _) ⟨rfl, rfl, (Or.inr rfl)⟩
set_option maxHeartbeats 4000000 in
set_option maxRecDepth 100000 in
theorem m_X9_takeNail {d : Nat} {t0 : Nat} {i1 : Option Nat} {i2 : Int32} {h : ab_HP} {r : (Int32 × ab_HP)} (ht0 : (ab_shp t0).1 = 1) (T_i1 : ∀ z, i1 = some z → (ab_shp z).1 = 3) (hf : f_X9_takeNail t0 i1 i2 h = some r) : ab_MET mX9_takeNail (d + 4) 0 0 [va_rf (some t0), va_rf i1, .int i2] h (ab_Pb r.1 r.2) := ab_met (by decide +kernel) (by decide +kernel) (by simp [ab_lo, ab_rf1, Value.category]) (by simp [ab_lo0, ab_lo, ab_rf1, Value.category, List.replicate]) (x_X9_takeNail ht0 T_i1 hf)
set_option maxHeartbeats 4000000 in
set_option maxRecDepth 100000 in
theorem x_X9_changeLaw {d : Nat} {t0 : Nat} {i1 : Int32} {h : ab_HP} {r : (Int32 × ab_HP)} (ht0 : (ab_shp t0).1 = 1) (hf : f_X9_changeLaw t0 i1 h = some r) : ab_T mX9_changeLaw (d + 0) 0 0 0 0 0 [some (va_rf (some t0)), some (.int i1), none] [] h (ab_Pi r.1 r.2) := by
  unfold f_X9_changeLaw at hf
  refine ab_iload_n (pc2 := 1) dX9_changeLaw_0 rfl rfl ?_
  refine ab_if_lt (tgt := 9) (pc2 := 4) dX9_changeLaw_1 (by decide) rfl hf (fun c1 hf => ?_) (fun c1 hf => ?_)
  · refine ab_iconst (pc2 := 10) (v := (-1)) dX9_changeLaw_9 rfl ab_k_iconst_m1 ?_
    cases Option.some.inj hf
    exact ab_retI dX9_changeLaw_10 (Or.inl rfl) (Nat.le_refl _) (Nat.le_refl _) ⟨rfl, rfl⟩
  · refine ab_iload_n (pc2 := 5) dX9_changeLaw_4 rfl rfl ?_
    refine ab_iconst (pc2 := 6) (v := 3) dX9_changeLaw_5 rfl ab_k_iconst_3 ?_
    refine ab_icmp_lt (tgt := 11) (pc2 := 9) dX9_changeLaw_6 (by decide) rfl hf (fun c2 hf => ?_) (fun c2 hf => ?_)
    · refine ab_aload_n (x := _) (pc2 := 12) dX9_changeLaw_11 rfl rfl ?_
      refine ab_getI (pc2 := 15) rfl ht0 fa_X9_34 (by decide) dX9_changeLaw_12 rfl ?_
      refine ab_istore_n (pc2 := 16) (lo2 := [some (va_rf _), some (.int _), some (.int _)]) dX9_changeLaw_15 rfl (by decide) rfl ?_
      refine ab_aload_n (x := _) (pc2 := 17) dX9_changeLaw_16 rfl rfl ?_
      refine ab_iload_n (pc2 := 18) dX9_changeLaw_17 rfl rfl ?_
      have hf := ab_let_e hf
      refine ab_putI (pc2 := 21) rfl ht0 fa_X9_34 (Or.inl rfl) (fun z => by cases z) dX9_changeLaw_18 rfl ?_
      refine ab_iload_n (pc2 := 22) dX9_changeLaw_21 rfl rfl ?_
      cases Option.some.inj hf
      exact ab_retI dX9_changeLaw_22 (Or.inl rfl) (Nat.le_refl _) (Nat.le_refl _) ⟨rfl, rfl⟩
    · refine ab_iconst (pc2 := 10) (v := (-1)) dX9_changeLaw_9 rfl ab_k_iconst_m1 ?_
      cases Option.some.inj hf
      exact ab_retI dX9_changeLaw_10 (Or.inl rfl) (Nat.le_refl _) (Nat.le_refl _) ⟨rfl, rfl⟩
set_option maxHeartbeats 4000000 in
set_option maxRecDepth 100000 in
theorem m_X9_changeLaw {d : Nat} {t0 : Nat} {i1 : Int32} {h : ab_HP} {r : (Int32 × ab_HP)} (ht0 : (ab_shp t0).1 = 1) (hf : f_X9_changeLaw t0 i1 h = some r) : ab_MET mX9_changeLaw (d + 0) 0 0 [va_rf (some t0), .int i1] h (ab_Pi r.1 r.2) := ab_met (by decide +kernel) (by decide +kernel) (Nat.le_of_ble_eq_true rfl) rfl (x_X9_changeLaw ht0 hf)
set_option maxHeartbeats 4000000 in
set_option maxRecDepth 100000 in
theorem x_X9_take {d : Nat} {t0 : Nat} {i1 : Option Nat} {i2 : Int32} {h : ab_HP} {r : (Int32 × ab_HP)} (ht0 : (ab_shp t0).1 = 1) (T_i1 : ∀ z, i1 = some z → (ab_shp z).1 = 3) (hf : f_X9_take t0 i1 i2 h = some r) : ab_T mX9_take (d + 5) 1 14 0 0 0 [some (va_rf (some t0)), some (va_rf i1), some (.int i2)] [] h (ab_Pb r.1 r.2) := by
  unfold f_X9_take at hf
  refine ab_aload_n (x := _) (pc2 := 1) dX9_take_0 rfl rfl ?_
  refine ab_iload_n (pc2 := 2) dX9_take_1 rfl rfl ?_
  obtain ⟨q1, hq1, hf⟩ := ab_bind hf
  obtain ⟨w2, ew2, hf⟩ := ab_bind hf
  refine ab_callV (pc2 := 5) (st := []) hq1 (T_i1 q1 hq1) (by decide) (m_X6_read (d := (d + 3)) (T_i1 q1 hq1) ew2) mf_X6_read tw_25 tw_24 ts_X6_read (Or.inl (by decide +kernel)) dX9_take_2 rfl (by omega) (by omega) (by omega) rfl (Nat.le_of_ble_eq_true rfl) (fun v u hp => ?_)
  obtain ⟨rfl, rfl⟩ := hp
  show ab_T _ _ _ _ 0 0 5 _ (.int _ :: []) _ _
  rcases ab_cas hf with ⟨s3, hf⟩ | ⟨s3, hf⟩
  · refine ab_lswK (tgt := 76) dX9_take_5 s3 (by decide +kernel) (by decide +kernel) (by decide) ?_
    refine ab_aload_n (x := _) (pc2 := 77) dX9_take_76 rfl rfl ?_
    refine ab_aload_n (x := _) (pc2 := 78) dX9_take_77 rfl rfl ?_
    refine ab_iload_n (pc2 := 79) dX9_take_78 rfl rfl ?_
    refine ab_iconst (pc2 := 80) (v := 1) dX9_take_79 rfl ab_k_iconst_1 ?_
    refine ab_iadd (pc2 := 81) dX9_take_80 rfl ?_
    obtain ⟨w4, ew4, hf⟩ := ab_bind hf
    refine ab_callS (pc2 := 84) (st := [_]) (m_X9_number (d := (d + 2)) T_i1 ew4) mf_X9_number tw_58 tw_59 dX9_take_81 rfl (by omega) (by omega) (by omega) rfl (Nat.le_of_ble_eq_true rfl) (fun v u hp => ?_)
    obtain ⟨rfl, rfl⟩ := hp
    show ab_T _ _ _ _ 0 0 84 _ (.int _ :: [_]) _ _
    obtain ⟨w5, ew5, hf⟩ := ab_bind hf
    refine ab_callV (pc2 := 87) (st := []) rfl ht0 (by decide) (m_X9_changeCoins (d := (d + 4)) ht0 ew5) mf_X9_changeCoins tw_75 tw_74 ts_X9_changeCoins (Or.inl (by decide +kernel)) dX9_take_84 rfl (by omega) (by omega) (by omega) rfl (Nat.le_of_ble_eq_true rfl) (fun v u hp => ?_)
    obtain ⟨rfl, rfl⟩ := hp
    show ab_T _ _ _ _ 0 0 87 _ (.int _ :: []) _ _
    refine ab_if_lt (tgt := 94) (pc2 := 90) dX9_take_87 (by decide) rfl hf (fun c6 hf => ?_) (fun c6 hf => ?_)
    · refine ab_iconst (pc2 := 95) (v := 0) dX9_take_94 rfl ab_k_iconst_0 ?_
      cases Option.some.inj hf
      exact ab_retI dX9_take_95 (Or.inr ⟨rfl, (Or.inl rfl)⟩) (by omega) (by omega) ⟨rfl, rfl, (Or.inl rfl)⟩
    · refine ab_iconst (pc2 := 91) (v := 1) dX9_take_90 rfl ab_k_iconst_1 ?_
      refine ab_goto (tgt := 95) dX9_take_91 (by decide) ?_
      cases Option.some.inj hf
      exact ab_retI dX9_take_95 (Or.inr ⟨rfl, (Or.inr rfl)⟩) (by omega) (by omega) ⟨rfl, rfl, (Or.inr rfl)⟩
  rcases ab_cas hf with ⟨s7, hf⟩ | ⟨s7, hf⟩
  · refine ab_lswK (tgt := 48) dX9_take_5 s7 (by decide +kernel) (by decide +kernel) (by decide) ?_
    refine ab_aload_n (x := _) (pc2 := 49) dX9_take_48 rfl rfl ?_
    refine ab_aload_n (x := _) (pc2 := 50) dX9_take_49 rfl rfl ?_
    refine ab_aload_n (x := _) (pc2 := 51) dX9_take_50 rfl rfl ?_
    refine ab_iload_n (pc2 := 52) dX9_take_51 rfl rfl ?_
    refine ab_iconst (pc2 := 53) (v := 1) dX9_take_52 rfl ab_k_iconst_1 ?_
    refine ab_iadd (pc2 := 54) dX9_take_53 rfl ?_
    obtain ⟨w8, ew8, hf⟩ := ab_bind hf
    refine ab_callV (pc2 := 57) (st := [_]) rfl ht0 (by decide) (m_X9_newDeed (d := (d + 0)) ht0 T_i1 ew8) mf_X9_newDeed tw_77 tw_76 ts_X9_newDeed (Or.inl (by decide +kernel)) dX9_take_54 rfl (by omega) (by omega) (by omega) rfl (Nat.le_of_ble_eq_true rfl) (fun v u hp => ?_)
    obtain ⟨rfl, rfl, T9⟩ := hp
    show ab_T _ _ _ _ (0 + 1) (0 + 14) 57 _ (va_rf _ :: [_]) _ _
    obtain ⟨w10, ew10, hf⟩ := ab_bind hf
    refine ab_callV (pc2 := 60) (st := []) rfl ht0 (by decide) (m_X9_takeDeed (d := (d + 4)) ht0 T9 ew10) mf_X9_takeDeed tw_79 tw_78 ts_X9_takeDeed (Or.inl (by decide +kernel)) dX9_take_57 rfl (by omega) (by omega) (by omega) rfl (Nat.le_of_ble_eq_true rfl) (fun v u hp => ?_)
    obtain ⟨rfl, rfl, z11⟩ := hp
    show ab_T _ _ _ _ (0 + 1) (0 + 14) 60 _ (.int _ :: []) _ _
    cases Option.some.inj hf
    exact ab_retI dX9_take_60 (Or.inr ⟨rfl, z11⟩) (by omega) (by omega) ⟨rfl, rfl, z11⟩
  rcases ab_cas hf with ⟨s12, hf⟩ | ⟨s12, hf⟩
  · refine ab_lswK (tgt := 61) dX9_take_5 s12 (by decide +kernel) (by decide +kernel) (by decide) ?_
    refine ab_aload_n (x := _) (pc2 := 62) dX9_take_61 rfl rfl ?_
    refine ab_aload_n (x := _) (pc2 := 63) dX9_take_62 rfl rfl ?_
    refine ab_iload_n (pc2 := 64) dX9_take_63 rfl rfl ?_
    refine ab_iconst (pc2 := 65) (v := 1) dX9_take_64 rfl ab_k_iconst_1 ?_
    refine ab_iadd (pc2 := 66) dX9_take_65 rfl ?_
    obtain ⟨w13, ew13, hf⟩ := ab_bind hf
    refine ab_callV (pc2 := 69) (st := [_]) hq1 (T_i1 q1 hq1) (by decide) (m_X6_read (d := (d + 3)) (T_i1 q1 hq1) ew13) mf_X6_read tw_25 tw_24 ts_X6_read (Or.inl (by decide +kernel)) dX9_take_66 rfl (by omega) (by omega) (by omega) rfl (Nat.le_of_ble_eq_true rfl) (fun v u hp => ?_)
    obtain ⟨rfl, rfl⟩ := hp
    show ab_T _ _ _ _ 0 0 69 _ (.int _ :: [_]) _ _
    refine ab_bipush (pc2 := 71) (v := 97) dX9_take_69 rfl ab_k_bipush_97 ?_
    refine ab_isub (pc2 := 72) dX9_take_71 rfl ?_
    obtain ⟨w14, ew14, hf⟩ := ab_bind hf
    refine ab_callV (pc2 := 75) (st := []) rfl ht0 (by decide) (m_X9_takeMark (d := (d + 4)) ht0 ew14) mf_X9_takeMark tw_81 tw_80 ts_X9_takeMark (Or.inl (by decide +kernel)) dX9_take_72 rfl (by omega) (by omega) (by omega) rfl (Nat.le_of_ble_eq_true rfl) (fun v u hp => ?_)
    obtain ⟨rfl, rfl, z15⟩ := hp
    show ab_T _ _ _ _ 0 0 75 _ (.int _ :: []) _ _
    cases Option.some.inj hf
    exact ab_retI dX9_take_75 (Or.inr ⟨rfl, z15⟩) (by omega) (by omega) ⟨rfl, rfl, z15⟩
  rcases ab_cas hf with ⟨s16, hf⟩ | ⟨s16, hf⟩
  · refine ab_lswK (tgt := 96) dX9_take_5 s16 (by decide +kernel) (by decide +kernel) (by decide) ?_
    refine ab_aload_n (x := _) (pc2 := 97) dX9_take_96 rfl rfl ?_
    refine ab_aload_n (x := _) (pc2 := 98) dX9_take_97 rfl rfl ?_
    refine ab_iload_n (pc2 := 99) dX9_take_98 rfl rfl ?_
    refine ab_iconst (pc2 := 100) (v := 1) dX9_take_99 rfl ab_k_iconst_1 ?_
    refine ab_iadd (pc2 := 101) dX9_take_100 rfl ?_
    obtain ⟨w17, ew17, hf⟩ := ab_bind hf
    refine ab_callV (pc2 := 104) (st := []) rfl ht0 (by decide) (m_X9_takeNail (d := (d + 0)) ht0 T_i1 ew17) mf_X9_takeNail tw_83 tw_82 ts_X9_takeNail (Or.inl (by decide +kernel)) dX9_take_101 rfl (by omega) (by omega) (by omega) rfl (Nat.le_of_ble_eq_true rfl) (fun v u hp => ?_)
    obtain ⟨rfl, rfl, z18⟩ := hp
    show ab_T _ _ _ _ 0 0 104 _ (.int _ :: []) _ _
    cases Option.some.inj hf
    exact ab_retI dX9_take_104 (Or.inr ⟨rfl, z18⟩) (by omega) (by omega) ⟨rfl, rfl, z18⟩
  refine ab_lsw (tgt := 105) (off := 100) dX9_take_5 (by decide +kernel) (by show Op.lookupswitch.offset [(99, 71), (100, 43), (109, 56), (110, 91)] _ _ = _; rw [lv_osw s3 (by decide), lv_osw s7 (by decide), lv_osw s12 (by decide), lv_osw s16 (by decide)]; rfl) (by decide) ?_
  refine ab_aload_n (x := _) (pc2 := 106) dX9_take_105 rfl rfl ?_
  refine ab_aload_n (x := _) (pc2 := 107) dX9_take_106 rfl rfl ?_
  refine ab_iload_n (pc2 := 108) dX9_take_107 rfl rfl ?_
  refine ab_iconst (pc2 := 109) (v := 1) dX9_take_108 rfl ab_k_iconst_1 ?_
  refine ab_iadd (pc2 := 110) dX9_take_109 rfl ?_
  obtain ⟨w19, ew19, hf⟩ := ab_bind hf
  refine ab_callS (pc2 := 113) (st := [_]) (m_X9_number (d := (d + 2)) T_i1 ew19) mf_X9_number tw_58 tw_59 dX9_take_110 rfl (by omega) (by omega) (by omega) rfl (Nat.le_of_ble_eq_true rfl) (fun v u hp => ?_)
  obtain ⟨rfl, rfl⟩ := hp
  show ab_T _ _ _ _ 0 0 113 _ (.int _ :: [_]) _ _
  obtain ⟨w20, ew20, hf⟩ := ab_bind hf
  refine ab_callV (pc2 := 116) (st := []) rfl ht0 (by decide) (m_X9_changeLaw (d := (d + 4)) ht0 ew20) mf_X9_changeLaw tw_85 tw_84 ts_X9_changeLaw (Or.inl (by decide +kernel)) dX9_take_113 rfl (by omega) (by omega) (by omega) rfl (Nat.le_of_ble_eq_true rfl) (fun v u hp => ?_)
  obtain ⟨rfl, rfl⟩ := hp
  show ab_T _ _ _ _ 0 0 116 _ (.int _ :: []) _ _
  refine ab_if_lt (tgt := 123) (pc2 := 119) dX9_take_116 (by decide) rfl hf (fun c21 hf => ?_) (fun c21 hf => ?_)
  · refine ab_iconst (pc2 := 124) (v := 0) dX9_take_123 rfl ab_k_iconst_0 ?_
    cases Option.some.inj hf
    exact ab_retI dX9_take_124 (Or.inr ⟨rfl, (Or.inl rfl)⟩) (by omega) (by omega) ⟨rfl, rfl, (Or.inl rfl)⟩
  · refine ab_iconst (pc2 := 120) (v := 1) dX9_take_119 rfl ab_k_iconst_1 ?_
    refine ab_goto (tgt := 124) dX9_take_120 (by decide) ?_
    cases Option.some.inj hf
    exact ab_retI dX9_take_124 (Or.inr ⟨rfl, (Or.inr rfl)⟩) (by omega) (by omega) ⟨rfl, rfl, (Or.inr rfl)⟩
set_option maxHeartbeats 4000000 in
set_option maxRecDepth 100000 in
theorem m_X9_take {d : Nat} {t0 : Nat} {i1 : Option Nat} {i2 : Int32} {h : ab_HP} {r : (Int32 × ab_HP)} (ht0 : (ab_shp t0).1 = 1) (T_i1 : ∀ z, i1 = some z → (ab_shp z).1 = 3) (hf : f_X9_take t0 i1 i2 h = some r) : ab_MET mX9_take (d + 5) 1 14 [va_rf (some t0), va_rf i1, .int i2] h (ab_Pb r.1 r.2) := ab_met (by decide +kernel) (by decide +kernel) (by simp [ab_lo, ab_rf1, Value.category]) (by simp [ab_lo0, ab_lo, ab_rf1, Value.category, List.replicate]) (x_X9_take ht0 T_i1 hf)
set_option maxHeartbeats 4000000 in
set_option maxRecDepth 100000 in
theorem x_X9_read_b24 {d : Nat} {k4 : Option Nat → Int32 → Int32 → ab_HP → Option (Int32 × ab_HP)} {t0 : Nat} {i1 : Option Nat} {i2 : Int32} {i3 : Int32} {c s : Nat} {h : ab_HP} {r : (Int32 × ab_HP)} (ht0 : (ab_shp t0).1 = 1) (hk4 : ∀ (i1 : Option Nat) (i2 : Int32) (i3 : Int32) (h : ab_HP) (c s : Nat), c + 101 ≤ 101 → s + 1414 ≤ 1414 →  (∀ z, i1 = some z → (ab_shp z).1 = 3) → k4 i1 i2 i3 h = some r → ab_T mX9_read (d + 6) 101 1414 c s 4 [some (va_rf (some t0)), some (va_rf i1), some (.int i2), some (.int i3), none] [] h (ab_Pi r.1 r.2)) (hc : c + 101 ≤ 101) (hs : s + 1414 ≤ 1414) (T_i1 : ∀ z, i1 = some z → (ab_shp z).1 = 3) (hf : f_X9_read_b24 k4 t0 i1 i2 i3 h = some r) : ab_T mX9_read (d + 6) 101 1414 c s 24 [some (va_rf (some t0)), some (va_rf i1), some (.int i2), some (.int i3), none] [] h (ab_Pi r.1 r.2) := by
  unfold f_X9_read_b24 at hf
  refine ab_aload_n (x := _) (pc2 := 25) dX9_read_24 rfl rfl ?_
  refine ab_iload_n (pc2 := 26) dX9_read_25 rfl rfl ?_
  obtain ⟨w5, ew5, hf⟩ := ab_bind hf
  refine ab_callS (pc2 := 29) (st := []) (m_X9_behindStatement (d := (d + 0)) T_i1 ew5) mf_X9_behindStatement tw_86 tw_87 dX9_read_26 rfl (by omega) (by omega) (by omega) rfl (Nat.le_of_ble_eq_true rfl) (fun v u hp => ?_)
  obtain ⟨rfl, rfl⟩ := hp
  show ab_T _ _ _ _ c s 29 _ (.int _ :: []) _ _
  refine ab_istore_n (pc2 := 30) (lo2 := [some (va_rf _), some (va_rf _), some (.int _), some (.int _), none]) dX9_read_29 rfl (by decide) rfl ?_
  refine ab_iload_n (pc2 := 31) dX9_read_30 rfl rfl ?_
  refine ab_if_ge (tgt := 43) (pc2 := 34) dX9_read_31 (by decide) rfl hf (fun c6 hf => ?_) (fun c6 hf => ?_)
  · refine ab_iinc (pc2 := 46) (v := _ + 1) (lo2 := [some (va_rf _), some (va_rf _), some (.int _), some (.int _), none]) dX9_read_43 rfl rfl rfl (by decide) rfl ?_
    refine ab_goto (tgt := 4) dX9_read_46 (by decide) ?_
    exact ab_weak (hk4 _ _ _ _ _ _ (by omega) (by omega) T_i1 hf) (ab_leS (ab_leS (ab_leS (ab_leS (ab_leN ab_le0)))))
  · refine ab_sipush (pc2 := 37) (v := (-1000)) dX9_read_34 rfl ab_k_sipush_m1000 ?_
    refine ab_iload_n (pc2 := 38) dX9_read_37 rfl rfl ?_
    obtain ⟨w7, ew7, hf⟩ := ab_bind hf
    refine ab_callS (pc2 := 41) (st := [_]) (m_X9_faultAt (d := (d + 5)) ew7) mf_X9_faultAt tw_88 tw_89 dX9_read_38 rfl (by omega) (by omega) (by omega) rfl (Nat.le_of_ble_eq_true rfl) (fun v u hp => ?_)
    obtain ⟨rfl, rfl⟩ := hp
    show ab_T _ _ _ _ c s 41 _ (.int _ :: [_]) _ _
    refine ab_isub (pc2 := 42) dX9_read_41 rfl ?_
    cases Option.some.inj hf
    exact ab_retI dX9_read_42 (Or.inl rfl) (by omega) (by omega) ⟨rfl, rfl⟩
set_option maxHeartbeats 4000000 in
set_option maxRecDepth 100000 in
theorem x_X9_read_l54 {d : Nat} {t0 : Nat} {r : (Int32 × ab_HP)} (ht0 : (ab_shp t0).1 = 1) : ∀ (n : Nat) (i1 : Option Nat) (i2 : Int32) (i3 : Int32) (i4 : Int32) (h : ab_HP) (c s : Nat), c + n * 1 + 0 ≤ 101 → s + n * 14 + 0 ≤ 1414 →  (∀ z, i1 = some z → (ab_shp z).1 = 3) → f_X9_read_l54 t0 n i1 i2 i3 i4 h = some r → ab_T mX9_read (d + 6) 101 1414 c s 54 [some (va_rf (some t0)), some (va_rf i1), some (.int i2), some (.int i3), some (.int i4)] [] h (ab_Pi r.1 r.2) := by
  intro n
  induction n with
  | zero =>
    intro i1 i2 i3 i4 h c s hc hs T_i1 hf
    rw [f_X9_read_l54] at hf
    cases hf
  | succ n ih =>
    intro i1 i2 i3 i4 h c s hc hs T_i1 hf
    rw [f_X9_read_l54] at hf
    refine ab_iload (pc2 := 56) dX9_read_54 rfl rfl ?_
    refine ab_iload_n (pc2 := 57) dX9_read_56 rfl rfl ?_
    refine ab_icmp_ge (tgt := 87) (pc2 := 60) dX9_read_57 (by decide) rfl hf (fun c8 hf => ?_) (fun c8 hf => ?_)
    · refine ab_iload_n (pc2 := 88) dX9_read_87 rfl rfl ?_
      cases Option.some.inj hf
      exact ab_retI dX9_read_88 (Or.inl rfl) (by omega) (by omega) ⟨rfl, rfl⟩
    · refine ab_aload_n (x := _) (pc2 := 61) dX9_read_60 rfl rfl ?_
      refine ab_aload_n (x := _) (pc2 := 62) dX9_read_61 rfl rfl ?_
      refine ab_iload_n (pc2 := 63) dX9_read_62 rfl rfl ?_
      obtain ⟨w9, ew9, hf⟩ := ab_bind hf
      refine ab_callV (pc2 := 66) (st := []) rfl ht0 (by decide) (m_X9_take (d := (d + 0)) ht0 T_i1 ew9) mf_X9_take tw_91 tw_90 ts_X9_take (Or.inl (by decide +kernel)) dX9_read_63 rfl (by omega) (by omega) (by omega) rfl (Nat.le_of_ble_eq_true rfl) (fun v u hp => ?_)
      obtain ⟨rfl, rfl, z10⟩ := hp
      show ab_T _ _ _ _ (c + 1) (s + 14) 66 _ (.int _ :: []) _ _
      refine ab_if_ne (tgt := 75) (pc2 := 69) dX9_read_66 (by decide) rfl hf (fun c11 hf => ?_) (fun c11 hf => ?_)
      · refine ab_aload_n (x := _) (pc2 := 76) dX9_read_75 rfl rfl ?_
        refine ab_iload_n (pc2 := 77) dX9_read_76 rfl rfl ?_
        obtain ⟨w12, ew12, hf⟩ := ab_bind hf
        refine ab_callS (pc2 := 80) (st := []) (m_X9_behindStatement (d := (d + 0)) T_i1 ew12) mf_X9_behindStatement tw_86 tw_87 dX9_read_77 rfl (by omega) (by omega) (by omega) rfl (Nat.le_of_ble_eq_true rfl) (fun v u hp => ?_)
        obtain ⟨rfl, rfl⟩ := hp
        show ab_T _ _ _ _ (c + 1) (s + 14) 80 _ (.int _ :: []) _ _
        refine ab_istore_n (pc2 := 81) (lo2 := [some (va_rf _), some (va_rf _), some (.int _), some (.int _), some (.int _)]) dX9_read_80 rfl (by decide) rfl ?_
        refine ab_iinc (pc2 := 84) (v := _ + 1) (lo2 := [some (va_rf _), some (va_rf _), some (.int _), some (.int _), some (.int _)]) dX9_read_81 rfl rfl rfl (by decide) rfl ?_
        refine ab_goto (tgt := 54) dX9_read_84 (by decide) ?_
        exact ab_weak (ih _ _ _ _ _ _ _ (by omega) (by omega) T_i1 hf) (ab_leS (ab_leS (ab_leS (ab_leS (ab_leS ab_le0)))))
      · refine ab_sipush (pc2 := 72) (v := (-2000)) dX9_read_69 rfl ab_k_sipush_m2000 ?_
        refine ab_iload_n (pc2 := 73) dX9_read_72 rfl rfl ?_
        refine ab_isub (pc2 := 74) dX9_read_73 rfl ?_
        cases Option.some.inj hf
        exact ab_retI dX9_read_74 (Or.inl rfl) (by omega) (by omega) ⟨rfl, rfl⟩
set_option maxHeartbeats 4000000 in
set_option maxRecDepth 100000 in
theorem x_X9_read_b49 {d : Nat} {t0 : Nat} {i1 : Option Nat} {i2 : Int32} {c s : Nat} {h : ab_HP} {r : (Int32 × ab_HP)} (ht0 : (ab_shp t0).1 = 1) (hc : c + 101 ≤ 101) (hs : s + 1414 ≤ 1414) (T_i1 : ∀ z, i1 = some z → (ab_shp z).1 = 3) (hf : f_X9_read_b49 t0 i1 i2 h = some r) : ab_T mX9_read (d + 6) 101 1414 c s 49 [some (va_rf (some t0)), some (va_rf i1), some (.int i2), none, none] [] h (ab_Pi r.1 r.2) := by
  unfold f_X9_read_b49 at hf
  refine ab_iconst (pc2 := 50) (v := 0) dX9_read_49 rfl ab_k_iconst_0 ?_
  refine ab_istore_n (pc2 := 51) (lo2 := [some (va_rf _), some (va_rf _), some (.int _), some (.int _), none]) dX9_read_50 rfl (by decide) rfl ?_
  refine ab_iconst (pc2 := 52) (v := 0) dX9_read_51 rfl ab_k_iconst_0 ?_
  refine ab_istore (pc2 := 54) (lo2 := [some (va_rf _), some (va_rf _), some (.int _), some (.int _), some (.int _)]) dX9_read_52 rfl (by decide) rfl ?_
  exact ab_weak (x_X9_read_l54 ht0 _ _ _ _ _ _ _ _ (by omega) (by omega) T_i1 hf) (ab_leS (ab_leS (ab_leS (ab_leS (ab_leS ab_le0)))))
set_option maxHeartbeats 4000000 in
set_option maxRecDepth 100000 in
theorem x_X9_read_l4 {d : Nat} {t0 : Nat} {r : (Int32 × ab_HP)} (ht0 : (ab_shp t0).1 = 1) : ∀ (n : Nat) (i1 : Option Nat) (i2 : Int32) (i3 : Int32) (h : ab_HP) (c s : Nat), c + n * 0 + 101 ≤ 101 → s + n * 0 + 1414 ≤ 1414 →  (∀ z, i1 = some z → (ab_shp z).1 = 3) → f_X9_read_l4 t0 n i1 i2 i3 h = some r → ab_T mX9_read (d + 6) 101 1414 c s 4 [some (va_rf (some t0)), some (va_rf i1), some (.int i2), some (.int i3), none] [] h (ab_Pi r.1 r.2) := by
  intro n
  induction n with
  | zero =>
    intro i1 i2 i3 h c s hc hs T_i1 hf
    rw [f_X9_read_l4] at hf
    cases hf
  | succ n ih =>
    intro i1 i2 i3 h c s hc hs T_i1 hf
    rw [f_X9_read_l4] at hf
    refine ab_iload_n (pc2 := 5) dX9_read_4 rfl rfl ?_
    refine ab_if_eq (tgt := 24) (pc2 := 8) dX9_read_5 (by decide) rfl hf (fun c1 hf => ?_) (fun c1 hf => ?_)
    · exact ab_weak (x_X9_read_b24 ht0 ih (by omega) (by omega) T_i1 hf) (ab_leS (ab_leS (ab_leS (ab_leS (ab_leN ab_le0)))))
    · refine ab_iload_n (pc2 := 9) dX9_read_8 rfl rfl ?_
      refine ab_aload_n (x := _) (pc2 := 10) dX9_read_9 rfl rfl ?_
      obtain ⟨q2, hq2, hf⟩ := ab_bind hf
      refine ab_getI (pc2 := 13) hq2 (T_i1 q2 hq2) fa_X9_43 (by decide) dX9_read_10 rfl ?_
      refine ab_icmp_ge (tgt := 49) (pc2 := 16) dX9_read_13 (by decide) rfl hf (fun c3 hf => ?_) (fun c3 hf => ?_)
      · exact ab_weak (x_X9_read_b49 ht0 (by omega) (by omega) T_i1 hf) (ab_leS (ab_leS (ab_leS (ab_leN (ab_leN ab_le0)))))
      · refine ab_iload_n (pc2 := 17) dX9_read_16 rfl rfl ?_
        refine ab_aload_n (x := _) (pc2 := 18) dX9_read_17 rfl rfl ?_
        refine ab_getI (pc2 := 21) hq2 (T_i1 q2 hq2) fa_X9_43 (by decide) dX9_read_18 rfl ?_
        refine ab_icmp_ge (tgt := 49) (pc2 := 24) dX9_read_21 (by decide) rfl hf (fun c4 hf => ?_) (fun c4 hf => ?_)
        · exact ab_weak (x_X9_read_b49 ht0 (by omega) (by omega) T_i1 hf) (ab_leS (ab_leS (ab_leS (ab_leN (ab_leN ab_le0)))))
        · exact ab_weak (x_X9_read_b24 ht0 ih (by omega) (by omega) T_i1 hf) (ab_leS (ab_leS (ab_leS (ab_leS (ab_leN ab_le0)))))
set_option maxHeartbeats 4000000 in
set_option maxRecDepth 100000 in
theorem x_X9_read {d : Nat} {t0 : Nat} {i1 : Option Nat} {h : ab_HP} {r : (Int32 × ab_HP)} (ht0 : (ab_shp t0).1 = 1) (T_i1 : ∀ z, i1 = some z → (ab_shp z).1 = 3) (hf : f_X9_read t0 i1 h = some r) : ab_T mX9_read (d + 6) 101 1414 0 0 0 [some (va_rf (some t0)), some (va_rf i1), none, none, none] [] h (ab_Pi r.1 r.2) := by
  unfold f_X9_read at hf
  refine ab_iconst (pc2 := 1) (v := 0) dX9_read_0 rfl ab_k_iconst_0 ?_
  refine ab_istore_n (pc2 := 2) (lo2 := [some (va_rf _), some (va_rf _), some (.int _), none, none]) dX9_read_1 rfl (by decide) rfl ?_
  refine ab_iconst (pc2 := 3) (v := 0) dX9_read_2 rfl ab_k_iconst_0 ?_
  refine ab_istore_n (pc2 := 4) (lo2 := [some (va_rf _), some (va_rf _), some (.int _), some (.int _), none]) dX9_read_3 rfl (by decide) rfl ?_
  exact ab_weak (x_X9_read_l4 ht0 _ _ _ _ _ _ _ (by omega) (by omega) T_i1 hf) (ab_leS (ab_leS (ab_leS (ab_leS (ab_leN ab_le0)))))
set_option maxHeartbeats 4000000 in
set_option maxRecDepth 100000 in
theorem m_X9_read {d : Nat} {t0 : Nat} {i1 : Option Nat} {h : ab_HP} {r : (Int32 × ab_HP)} (ht0 : (ab_shp t0).1 = 1) (T_i1 : ∀ z, i1 = some z → (ab_shp z).1 = 3) (hf : f_X9_read t0 i1 h = some r) : ab_MET mX9_read (d + 6) 101 1414 [va_rf (some t0), va_rf i1] h (ab_Pi r.1 r.2) := ab_met (by decide +kernel) (by decide +kernel) (by simp [ab_lo, ab_rf1, Value.category]) (by simp [ab_lo0, ab_lo, ab_rf1, Value.category, List.replicate]) (x_X9_read ht0 T_i1 hf)
set_option maxHeartbeats 4000000 in
set_option maxRecDepth 100000 in
theorem x_X1_hasGround {d : Nat} {t0 : Nat} {i1 : Int32} {h : ab_HP} {r : Int32} (ht0 : (ab_shp t0).1 = 4) (hf : f_X1_hasGround t0 i1 h = some r) : ab_T mX1_hasGround (d + 0) 0 0 0 0 0 [some (va_rf (some t0)), some (.int i1)] [] h (ab_Pb r h) := by
  unfold f_X1_hasGround at hf
  refine ab_aload_n (x := _) (pc2 := 1) dX1_hasGround_0 rfl rfl ?_
  refine ab_getI (pc2 := 4) rfl ht0 fa_X1_21 (by decide) dX1_hasGround_1 rfl ?_
  refine ab_iload_n (pc2 := 5) dX1_hasGround_4 rfl rfl ?_
  refine ab_iconst (pc2 := 6) (v := (-1)) dX1_hasGround_5 rfl ab_k_iconst_m1 ?_
  refine ab_ixor (pc2 := 7) dX1_hasGround_6 rfl ?_
  refine ab_iand (pc2 := 8) dX1_hasGround_7 rfl ?_
  refine ab_if_ne (tgt := 15) (pc2 := 11) dX1_hasGround_8 (by decide) rfl hf (fun c1 hf => ?_) (fun c1 hf => ?_)
  · refine ab_iconst (pc2 := 16) (v := 0) dX1_hasGround_15 rfl ab_k_iconst_0 ?_
    cases Option.some.inj hf
    exact ab_retI dX1_hasGround_16 (Or.inr ⟨rfl, (Or.inl rfl)⟩) (Nat.le_refl _) (Nat.le_refl _) ⟨rfl, rfl, (Or.inl rfl)⟩
  · refine ab_iconst (pc2 := 12) (v := 1) dX1_hasGround_11 rfl ab_k_iconst_1 ?_
    refine ab_goto (tgt := 16) dX1_hasGround_12 (by decide) ?_
    cases Option.some.inj hf
    exact ab_retI dX1_hasGround_16 (Or.inr ⟨rfl, (Or.inr rfl)⟩) (Nat.le_refl _) (Nat.le_refl _) ⟨rfl, rfl, (Or.inr rfl)⟩
set_option maxHeartbeats 4000000 in
set_option maxRecDepth 100000 in
theorem m_X1_hasGround {d : Nat} {t0 : Nat} {i1 : Int32} {h : ab_HP} {r : Int32} (ht0 : (ab_shp t0).1 = 4) (hf : f_X1_hasGround t0 i1 h = some r) : ab_MET mX1_hasGround (d + 0) 0 0 [va_rf (some t0), .int i1] h (ab_Pb r h) := ab_met (by decide +kernel) (by decide +kernel) (Nat.le_of_ble_eq_true rfl) rfl (x_X1_hasGround ht0 hf)
set_option maxHeartbeats 4000000 in
set_option maxRecDepth 100000 in
theorem x_X1_mayBeDone {d : Nat} {t0 : Nat} {i1 : Int32} {i2 : Int32} {h : ab_HP} {r : Int32} (ht0 : (ab_shp t0).1 = 4) (hf : f_X1_mayBeDone t0 i1 i2 h = some r) : ab_T mX1_mayBeDone (d + 1) 0 0 0 0 0 [some (va_rf (some t0)), some (.int i1), some (.int i2)] [] h (ab_Pb r h) := by
  unfold f_X1_mayBeDone at hf
  refine ab_aload_n (x := _) (pc2 := 1) dX1_mayBeDone_0 rfl rfl ?_
  refine ab_iload_n (pc2 := 2) dX1_mayBeDone_1 rfl rfl ?_
  obtain ⟨w1, ew1, hf⟩ := ab_bind hf
  refine ab_callV (pc2 := 5) (st := []) rfl ht0 (by decide) (m_X1_hasGround (d := (d + 0)) ht0 ew1) mf_X1_hasGround tw_148 tw_146 ts_X1_hasGround (Or.inr tw_147) dX1_mayBeDone_2 rfl (by omega) (Nat.le_refl _) (Nat.le_refl _) rfl (Nat.le_of_ble_eq_true rfl) (fun v u hp => ?_)
  obtain ⟨rfl, rfl, z2⟩ := hp
  show ab_T _ _ _ _ 0 0 5 _ (.int _ :: []) _ _
  refine ab_if_eq (tgt := 20) (pc2 := 8) dX1_mayBeDone_5 (by decide) rfl hf (fun c3 hf => ?_) (fun c3 hf => ?_)
  · refine ab_iconst (pc2 := 21) (v := 0) dX1_mayBeDone_20 rfl ab_k_iconst_0 ?_
    cases Option.some.inj hf
    exact ab_retI dX1_mayBeDone_21 (Or.inr ⟨rfl, (Or.inl rfl)⟩) (Nat.le_refl _) (Nat.le_refl _) ⟨rfl, rfl, (Or.inl rfl)⟩
  · refine ab_iload_n (pc2 := 9) dX1_mayBeDone_8 rfl rfl ?_
    refine ab_aload_n (x := _) (pc2 := 10) dX1_mayBeDone_9 rfl rfl ?_
    refine ab_getI (pc2 := 13) rfl ht0 fa_X1_33 (by decide) dX1_mayBeDone_10 rfl ?_
    refine ab_icmp_lt (tgt := 20) (pc2 := 16) dX1_mayBeDone_13 (by decide) rfl hf (fun c4 hf => ?_) (fun c4 hf => ?_)
    · refine ab_iconst (pc2 := 21) (v := 0) dX1_mayBeDone_20 rfl ab_k_iconst_0 ?_
      cases Option.some.inj hf
      exact ab_retI dX1_mayBeDone_21 (Or.inr ⟨rfl, (Or.inl rfl)⟩) (Nat.le_refl _) (Nat.le_refl _) ⟨rfl, rfl, (Or.inl rfl)⟩
    · refine ab_iconst (pc2 := 17) (v := 1) dX1_mayBeDone_16 rfl ab_k_iconst_1 ?_
      refine ab_goto (tgt := 21) dX1_mayBeDone_17 (by decide) ?_
      cases Option.some.inj hf
      exact ab_retI dX1_mayBeDone_21 (Or.inr ⟨rfl, (Or.inr rfl)⟩) (Nat.le_refl _) (Nat.le_refl _) ⟨rfl, rfl, (Or.inr rfl)⟩
set_option maxHeartbeats 4000000 in
set_option maxRecDepth 100000 in
theorem m_X1_mayBeDone {d : Nat} {t0 : Nat} {i1 : Int32} {i2 : Int32} {h : ab_HP} {r : Int32} (ht0 : (ab_shp t0).1 = 4) (hf : f_X1_mayBeDone t0 i1 i2 h = some r) : ab_MET mX1_mayBeDone (d + 1) 0 0 [va_rf (some t0), .int i1, .int i2] h (ab_Pb r h) := ab_met (by decide +kernel) (by decide +kernel) (Nat.le_of_ble_eq_true rfl) rfl (x_X1_mayBeDone ht0 hf)
set_option maxHeartbeats 4000000 in
set_option maxRecDepth 100000 in
theorem x_X10_open {d : Nat} {t0 : Nat} {i1 : Option Nat} {h : ab_HP} {r : ab_HP} (ht0 : (ab_shp t0).1 = 2) (T_i1 : ∀ z, i1 = some z → (ab_shp z).1 = 1) (hf : f_X10_open t0 i1 h = some r) : ab_T mX10_open (d + 0) 0 0 0 0 0 [some (va_rf (some t0)), some (va_rf i1)] [] h (ab_Pv r) := by
  unfold f_X10_open at hf
  refine ab_aload_n (x := _) (pc2 := 1) dX10_open_0 rfl rfl ?_
  refine ab_aload_n (x := _) (pc2 := 2) dX10_open_1 rfl rfl ?_
  have hf := ab_let_e hf
  refine ab_putR (pc2 := 5) rfl ht0 fa_X10_24 T_i1 (fun z => by cases z) dX10_open_2 rfl ?_
  refine ab_aload_n (x := _) (pc2 := 6) dX10_open_5 rfl rfl ?_
  refine ab_aload_n (x := _) (pc2 := 7) dX10_open_6 rfl rfl ?_
  obtain ⟨q2, hq2, hf⟩ := ab_bind hf
  refine ab_getI (pc2 := 10) hq2 (T_i1 q2 hq2) fa_X10_28 (by decide) dX10_open_7 rfl ?_
  have hf := ab_let_e hf
  refine ab_putI (pc2 := 13) rfl ht0 fa_X10_34 (Or.inl rfl) (fun z => by cases z) dX10_open_10 rfl ?_
  refine ab_aload_n (x := _) (pc2 := 14) dX10_open_13 rfl rfl ?_
  refine ab_iconst (pc2 := 15) (v := 0) dX10_open_14 rfl ab_k_iconst_0 ?_
  have hf := ab_let_e hf
  refine ab_putI (pc2 := 18) rfl ht0 fa_X10_35 (Or.inl rfl) (fun z => by cases z) dX10_open_15 rfl ?_
  cases Option.some.inj hf
  exact ab_retV dX10_open_18 rfl (Nat.le_refl _) (Nat.le_refl _) ⟨rfl, rfl⟩
set_option maxHeartbeats 4000000 in
set_option maxRecDepth 100000 in
theorem m_X10_open {d : Nat} {t0 : Nat} {i1 : Option Nat} {h : ab_HP} {r : ab_HP} (ht0 : (ab_shp t0).1 = 2) (T_i1 : ∀ z, i1 = some z → (ab_shp z).1 = 1) (hf : f_X10_open t0 i1 h = some r) : ab_MET mX10_open (d + 0) 0 0 [va_rf (some t0), va_rf i1] h (ab_Pv r) := ab_met (by decide +kernel) (by decide +kernel) (by simp [ab_lo, ab_rf1, Value.category]) (by simp [ab_lo0, ab_lo, ab_rf1, Value.category, List.replicate]) (x_X10_open ht0 T_i1 hf)
set_option maxHeartbeats 4000000 in
set_option maxRecDepth 100000 in
theorem x_X10_add {d : Nat} {t0 : Nat} {i1 : Option Nat} {h : ab_HP} {r : ab_HP} (ht0 : (ab_shp t0).1 = 2) (T_i1 : ∀ z, i1 = some z → (ab_shp z).1 = 4) (hf : f_X10_add t0 i1 h = some r) : ab_T mX10_add (d + 0) 0 0 0 0 0 [some (va_rf (some t0)), some (va_rf i1)] [] h (ab_Pv r) := by
  unfold f_X10_add at hf
  refine ab_aload_n (x := _) (pc2 := 1) dX10_add_0 rfl rfl ?_
  refine ab_nul (tgt := 36) (pc2 := 4) dX10_add_1 (by decide) rfl hf (fun hq1 hf => ?_) (fun q1 hq1 hf => ?_)
  · cases Option.some.inj hf
    exact ab_retV dX10_add_36 rfl (Nat.le_refl _) (Nat.le_refl _) ⟨rfl, rfl⟩
  · refine ab_aload_n (x := _) (pc2 := 5) dX10_add_4 rfl rfl ?_
    refine ab_getI (pc2 := 8) rfl ht0 fa_X10_35 (by decide) dX10_add_5 rfl ?_
    refine ab_aload_n (x := _) (pc2 := 9) dX10_add_8 rfl rfl ?_
    refine ab_getR (pc2 := 12) rfl ht0 fa_X10_11 dX10_add_9 rfl (fun T2 => ?_)
    obtain ⟨q3, hq3, hf⟩ := ab_bind hf
    refine ab_alen (pc2 := 13) hq3 (Or.inr (Or.inl (T2 q3 hq3))) dX10_add_12 rfl ?_
    refine ab_icmp_ge (tgt := 36) (pc2 := 16) dX10_add_13 (by decide) rfl hf (fun c4 hf => ?_) (fun c4 hf => ?_)
    · cases Option.some.inj hf
      exact ab_retV dX10_add_36 rfl (Nat.le_refl _) (Nat.le_refl _) ⟨rfl, rfl⟩
    · refine ab_aload_n (x := _) (pc2 := 17) dX10_add_16 rfl rfl ?_
      refine ab_getR (pc2 := 20) rfl ht0 fa_X10_11 dX10_add_17 rfl (fun T5 => ?_)
      refine ab_aload_n (x := _) (pc2 := 21) dX10_add_20 rfl rfl ?_
      refine ab_getI (pc2 := 24) rfl ht0 fa_X10_35 (by decide) dX10_add_21 rfl ?_
      refine ab_aload_n (x := _) (pc2 := 25) dX10_add_24 rfl rfl ?_
      obtain ⟨q6, hq6, hf⟩ := ab_bind hf
      obtain ⟨b7, hf⟩ := ab_guard hf
      have hf := ab_let_e hf
      refine ab_aast (pc2 := 26) hq6 (T5 q6 hq6) (Or.inl rfl) T_i1 (ab_in_vp b7) dX10_add_25 rfl ?_
      refine ab_aload_n (x := _) (pc2 := 27) dX10_add_26 rfl rfl ?_
      refine ab_dup (pc2 := 28) dX10_add_27 rfl (ab_rf1 _) ?_
      refine ab_getI (pc2 := 31) rfl ht0 fa_X10_35 (by decide) dX10_add_28 rfl ?_
      refine ab_iconst (pc2 := 32) (v := 1) dX10_add_31 rfl ab_k_iconst_1 ?_
      refine ab_iadd (pc2 := 33) dX10_add_32 rfl ?_
      have hf := ab_let_e hf
      refine ab_putI (pc2 := 36) rfl ht0 fa_X10_35 (Or.inl rfl) (fun z => by cases z) dX10_add_33 rfl ?_
      cases Option.some.inj hf
      exact ab_retV dX10_add_36 rfl (Nat.le_refl _) (Nat.le_refl _) ⟨rfl, rfl⟩
set_option maxHeartbeats 4000000 in
set_option maxRecDepth 100000 in
theorem m_X10_add {d : Nat} {t0 : Nat} {i1 : Option Nat} {h : ab_HP} {r : ab_HP} (ht0 : (ab_shp t0).1 = 2) (T_i1 : ∀ z, i1 = some z → (ab_shp z).1 = 4) (hf : f_X10_add t0 i1 h = some r) : ab_MET mX10_add (d + 0) 0 0 [va_rf (some t0), va_rf i1] h (ab_Pv r) := ab_met (by decide +kernel) (by decide +kernel) (by simp [ab_lo, ab_rf1, Value.category]) (by simp [ab_lo0, ab_lo, ab_rf1, Value.category, List.replicate]) (x_X10_add ht0 T_i1 hf)
set_option maxHeartbeats 4000000 in
set_option maxRecDepth 100000 in
theorem x_X10_begin {d : Nat} {t0 : Nat} {i1 : Int32} {i2 : Int32} {h : ab_HP} {r : ab_HP} (ht0 : (ab_shp t0).1 = 2) (hf : f_X10_begin t0 i1 i2 h = some r) : ab_T mX10_begin (d + 0) 0 0 0 0 0 [some (va_rf (some t0)), some (.int i1), some (.int i2)] [] h (ab_Pv r) := by
  unfold f_X10_begin at hf
  refine ab_aload_n (x := _) (pc2 := 1) dX10_begin_0 rfl rfl ?_
  refine ab_iload_n (pc2 := 2) dX10_begin_1 rfl rfl ?_
  have hf := ab_let_e hf
  refine ab_putI (pc2 := 5) rfl ht0 fa_X10_38 (Or.inl rfl) (fun z => by cases z) dX10_begin_2 rfl ?_
  refine ab_aload_n (x := _) (pc2 := 6) dX10_begin_5 rfl rfl ?_
  refine ab_iload_n (pc2 := 7) dX10_begin_6 rfl rfl ?_
  have hf := ab_let_e hf
  refine ab_putI (pc2 := 10) rfl ht0 fa_X10_41 (Or.inl rfl) (fun z => by cases z) dX10_begin_7 rfl ?_
  refine ab_aload_n (x := _) (pc2 := 11) dX10_begin_10 rfl rfl ?_
  refine ab_iconst (pc2 := 12) (v := 0) dX10_begin_11 rfl ab_k_iconst_0 ?_
  have hf := ab_let_e hf
  refine ab_putI (pc2 := 15) rfl ht0 fa_X10_44 (Or.inl rfl) (fun z => by cases z) dX10_begin_12 rfl ?_
  refine ab_aload_n (x := _) (pc2 := 16) dX10_begin_15 rfl rfl ?_
  refine ab_iconst (pc2 := 17) (v := 0) dX10_begin_16 rfl ab_k_iconst_0 ?_
  have hf := ab_let_e hf
  refine ab_putI (pc2 := 20) rfl ht0 fa_X10_47 (Or.inl rfl) (fun z => by cases z) dX10_begin_17 rfl ?_
  refine ab_aload_n (x := _) (pc2 := 21) dX10_begin_20 rfl rfl ?_
  refine ab_iconst (pc2 := 22) (v := 0) dX10_begin_21 rfl ab_k_iconst_0 ?_
  have hf := ab_let_e hf
  refine ab_putI (pc2 := 25) rfl ht0 fa_X10_50 (Or.inl rfl) (fun z => by cases z) dX10_begin_22 rfl ?_
  refine ab_aload_n (x := _) (pc2 := 26) dX10_begin_25 rfl rfl ?_
  refine ab_iconst (pc2 := 27) (v := 0) dX10_begin_26 rfl ab_k_iconst_0 ?_
  have hf := ab_let_e hf
  refine ab_putI (pc2 := 30) rfl ht0 fa_X10_53 (Or.inl rfl) (fun z => by cases z) dX10_begin_27 rfl ?_
  refine ab_aload_n (x := _) (pc2 := 31) dX10_begin_30 rfl rfl ?_
  refine ab_iconst (pc2 := 32) (v := 0) dX10_begin_31 rfl ab_k_iconst_0 ?_
  have hf := ab_let_e hf
  refine ab_putI (pc2 := 35) rfl ht0 fa_X10_56 (Or.inl rfl) (fun z => by cases z) dX10_begin_32 rfl ?_
  refine ab_aload_n (x := _) (pc2 := 36) dX10_begin_35 rfl rfl ?_
  refine ab_iconst (pc2 := 37) (v := 0) dX10_begin_36 rfl ab_k_iconst_0 ?_
  have hf := ab_let_e hf
  refine ab_putI (pc2 := 40) rfl ht0 fa_X10_59 (Or.inl rfl) (fun z => by cases z) dX10_begin_37 rfl ?_
  cases Option.some.inj hf
  exact ab_retV dX10_begin_40 rfl (Nat.le_refl _) (Nat.le_refl _) ⟨rfl, rfl⟩
set_option maxHeartbeats 4000000 in
set_option maxRecDepth 100000 in
theorem m_X10_begin {d : Nat} {t0 : Nat} {i1 : Int32} {i2 : Int32} {h : ab_HP} {r : ab_HP} (ht0 : (ab_shp t0).1 = 2) (hf : f_X10_begin t0 i1 i2 h = some r) : ab_MET mX10_begin (d + 0) 0 0 [va_rf (some t0), .int i1, .int i2] h (ab_Pv r) := ab_met (by decide +kernel) (by decide +kernel) (Nat.le_of_ble_eq_true rfl) rfl (x_X10_begin ht0 hf)
set_option maxHeartbeats 4000000 in
set_option maxRecDepth 100000 in
theorem x_X10_deedAt {d : Nat} {t0 : Nat} {i1 : Int32} {h : ab_HP} {r : (Option Nat)} (ht0 : (ab_shp t0).1 = 2) (hf : f_X10_deedAt t0 i1 h = some r) : ab_T mX10_deedAt (d + 0) 0 0 0 0 0 [some (va_rf (some t0)), some (.int i1)] [] h (ab_Pr 4 r h) := by
  unfold f_X10_deedAt at hf
  refine ab_iload_n (pc2 := 1) dX10_deedAt_0 rfl rfl ?_
  refine ab_if_lt (tgt := 30) (pc2 := 4) dX10_deedAt_1 (by decide) rfl hf (fun c1 hf => ?_) (fun c1 hf => ?_)
  · refine ab_null (pc2 := 31) dX10_deedAt_30 rfl ?_
    cases Option.some.inj hf
    exact ab_retA dX10_deedAt_31 ⟨_, rfl⟩ (Nat.le_refl _) (Nat.le_refl _) ⟨rfl, rfl, (fun z hz => by cases hz)⟩
  · refine ab_iload_n (pc2 := 5) dX10_deedAt_4 rfl rfl ?_
    refine ab_aload_n (x := _) (pc2 := 6) dX10_deedAt_5 rfl rfl ?_
    refine ab_getI (pc2 := 9) rfl ht0 fa_X10_35 (by decide) dX10_deedAt_6 rfl ?_
    refine ab_icmp_ge (tgt := 30) (pc2 := 12) dX10_deedAt_9 (by decide) rfl hf (fun c2 hf => ?_) (fun c2 hf => ?_)
    · refine ab_null (pc2 := 31) dX10_deedAt_30 rfl ?_
      cases Option.some.inj hf
      exact ab_retA dX10_deedAt_31 ⟨_, rfl⟩ (Nat.le_refl _) (Nat.le_refl _) ⟨rfl, rfl, (fun z hz => by cases hz)⟩
    · refine ab_iload_n (pc2 := 13) dX10_deedAt_12 rfl rfl ?_
      refine ab_aload_n (x := _) (pc2 := 14) dX10_deedAt_13 rfl rfl ?_
      refine ab_getR (pc2 := 17) rfl ht0 fa_X10_11 dX10_deedAt_14 rfl (fun T3 => ?_)
      obtain ⟨q4, hq4, hf⟩ := ab_bind hf
      refine ab_alen (pc2 := 18) hq4 (Or.inr (Or.inl (T3 q4 hq4))) dX10_deedAt_17 rfl ?_
      refine ab_icmp_ge (tgt := 30) (pc2 := 21) dX10_deedAt_18 (by decide) rfl hf (fun c5 hf => ?_) (fun c5 hf => ?_)
      · refine ab_null (pc2 := 31) dX10_deedAt_30 rfl ?_
        cases Option.some.inj hf
        exact ab_retA dX10_deedAt_31 ⟨_, rfl⟩ (Nat.le_refl _) (Nat.le_refl _) ⟨rfl, rfl, (fun z hz => by cases hz)⟩
      · refine ab_aload_n (x := _) (pc2 := 22) dX10_deedAt_21 rfl rfl ?_
        refine ab_getR (pc2 := 25) rfl ht0 fa_X10_11 dX10_deedAt_22 rfl (fun T6 => ?_)
        refine ab_iload_n (pc2 := 26) dX10_deedAt_25 rfl rfl ?_
        obtain ⟨q7, hq7, hf⟩ := ab_bind hf
        obtain ⟨b8, hf⟩ := ab_guard hf
        refine ab_aald (pc2 := 27) hq7 (T6 q7 hq7) (Or.inl rfl) (ab_in_vp b8) dX10_deedAt_26 rfl (fun T9 => ?_)
        refine ab_goto (tgt := 31) dX10_deedAt_27 (by decide) ?_
        cases Option.some.inj hf
        exact ab_retA dX10_deedAt_31 ⟨_, rfl⟩ (Nat.le_refl _) (Nat.le_refl _) ⟨rfl, rfl, T9⟩
set_option maxHeartbeats 4000000 in
set_option maxRecDepth 100000 in
theorem m_X10_deedAt {d : Nat} {t0 : Nat} {i1 : Int32} {h : ab_HP} {r : (Option Nat)} (ht0 : (ab_shp t0).1 = 2) (hf : f_X10_deedAt t0 i1 h = some r) : ab_MET mX10_deedAt (d + 0) 0 0 [va_rf (some t0), .int i1] h (ab_Pr 4 r h) := ab_met (by decide +kernel) (by decide +kernel) (Nat.le_of_ble_eq_true rfl) rfl (x_X10_deedAt ht0 hf)
set_option maxHeartbeats 4000000 in
set_option maxRecDepth 100000 in
theorem x_X1_marksBehind {d : Nat} {t0 : Nat} {i1 : Int32} {h : ab_HP} {r : Int32} (ht0 : (ab_shp t0).1 = 4) (hf : f_X1_marksBehind t0 i1 h = some r) : ab_T mX1_marksBehind (d + 0) 0 0 0 0 0 [some (va_rf (some t0)), some (.int i1)] [] h (ab_Pi r h) := by
  unfold f_X1_marksBehind at hf
  refine ab_iload_n (pc2 := 1) dX1_marksBehind_0 rfl rfl ?_
  refine ab_aload_n (x := _) (pc2 := 2) dX1_marksBehind_1 rfl rfl ?_
  refine ab_getI (pc2 := 5) rfl ht0 fa_X1_39 (by decide) dX1_marksBehind_2 rfl ?_
  refine ab_ior (pc2 := 6) dX1_marksBehind_5 rfl ?_
  refine ab_aload_n (x := _) (pc2 := 7) dX1_marksBehind_6 rfl rfl ?_
  refine ab_getI (pc2 := 10) rfl ht0 fa_X1_53 (by decide) dX1_marksBehind_7 rfl ?_
  refine ab_iconst (pc2 := 11) (v := (-1)) dX1_marksBehind_10 rfl ab_k_iconst_m1 ?_
  refine ab_ixor (pc2 := 12) dX1_marksBehind_11 rfl ?_
  refine ab_iand (pc2 := 13) dX1_marksBehind_12 rfl ?_
  cases Option.some.inj hf
  exact ab_retI dX1_marksBehind_13 (Or.inl rfl) (Nat.le_refl _) (Nat.le_refl _) ⟨rfl, rfl⟩
set_option maxHeartbeats 4000000 in
set_option maxRecDepth 100000 in
theorem m_X1_marksBehind {d : Nat} {t0 : Nat} {i1 : Int32} {h : ab_HP} {r : Int32} (ht0 : (ab_shp t0).1 = 4) (hf : f_X1_marksBehind t0 i1 h = some r) : ab_MET mX1_marksBehind (d + 0) 0 0 [va_rf (some t0), .int i1] h (ab_Pi r h) := ab_met (by decide +kernel) (by decide +kernel) (Nat.le_of_ble_eq_true rfl) rfl (x_X1_marksBehind ht0 hf)
set_option maxHeartbeats 4000000 in
set_option maxRecDepth 100000 in
theorem x_X11_store {d : Nat} {i0 : Option Nat} {i1 : Int32} {i2 : Int32} {h : ab_HP} {r : ab_HP} (T_i0 : ∀ z, i0 = some z → (ab_shp z).1 = 6) (hf : f_X11_store i0 i1 i2 h = some r) : ab_T mX11_store (d + 0) 0 0 0 0 0 [some (va_rf i0), some (.int i1), some (.int i2)] [] h (ab_Pv r) := by
  unfold f_X11_store at hf
  refine ab_iload_n (pc2 := 1) dX11_store_0 rfl rfl ?_
  refine ab_if_lt (tgt := 14) (pc2 := 4) dX11_store_1 (by decide) rfl hf (fun c1 hf => ?_) (fun c1 hf => ?_)
  · cases Option.some.inj hf
    exact ab_retV dX11_store_14 rfl (Nat.le_refl _) (Nat.le_refl _) ⟨rfl, rfl⟩
  · refine ab_iload_n (pc2 := 5) dX11_store_4 rfl rfl ?_
    refine ab_aload_n (x := _) (pc2 := 6) dX11_store_5 rfl rfl ?_
    obtain ⟨q2, hq2, hf⟩ := ab_bind hf
    refine ab_alen (pc2 := 7) hq2 (Or.inl (T_i0 q2 hq2)) dX11_store_6 rfl ?_
    refine ab_icmp_ge (tgt := 14) (pc2 := 10) dX11_store_7 (by decide) rfl hf (fun c3 hf => ?_) (fun c3 hf => ?_)
    · cases Option.some.inj hf
      exact ab_retV dX11_store_14 rfl (Nat.le_refl _) (Nat.le_refl _) ⟨rfl, rfl⟩
    · refine ab_aload_n (x := _) (pc2 := 11) dX11_store_10 rfl rfl ?_
      refine ab_iload_n (pc2 := 12) dX11_store_11 rfl rfl ?_
      refine ab_iload_n (pc2 := 13) dX11_store_12 rfl rfl ?_
      obtain ⟨b4, hf⟩ := ab_guard hf
      have hf := ab_let_e hf
      refine ab_iast (pc2 := 14) hq2 (T_i0 q2 hq2) (ab_in_vp b4) dX11_store_13 rfl ?_
      cases Option.some.inj hf
      exact ab_retV dX11_store_14 rfl (Nat.le_refl _) (Nat.le_refl _) ⟨rfl, rfl⟩
set_option maxHeartbeats 4000000 in
set_option maxRecDepth 100000 in
theorem m_X11_store {d : Nat} {i0 : Option Nat} {i1 : Int32} {i2 : Int32} {h : ab_HP} {r : ab_HP} (T_i0 : ∀ z, i0 = some z → (ab_shp z).1 = 6) (hf : f_X11_store i0 i1 i2 h = some r) : ab_MET mX11_store (d + 0) 0 0 [va_rf i0, .int i1, .int i2] h (ab_Pv r) := ab_met (by decide +kernel) (by decide +kernel) (by simp [ab_lo, ab_rf1, Value.category]) (by simp [ab_lo0, ab_lo, ab_rf1, Value.category, List.replicate]) (x_X11_store T_i0 hf)
set_option maxHeartbeats 4000000 in
set_option maxRecDepth 100000 in
theorem x_X10_has {d : Nat} {i0 : Int32} {i1 : Int32} {h : ab_HP} {r : Int32}  (hf : f_X10_has i0 i1 h = some r) : ab_T mX10_has (d + 0) 0 0 0 0 0 [some (.int i0), some (.int i1)] [] h (ab_Pb r h) := by
  unfold f_X10_has at hf
  refine ab_iload_n (pc2 := 1) dX10_has_0 rfl rfl ?_
  refine ab_iload_n (pc2 := 2) dX10_has_1 rfl rfl ?_
  refine ab_ishr (pc2 := 3) dX10_has_2 rfl ?_
  refine ab_iconst (pc2 := 4) (v := 1) dX10_has_3 rfl ab_k_iconst_1 ?_
  refine ab_iand (pc2 := 5) dX10_has_4 rfl ?_
  refine ab_if_eq (tgt := 12) (pc2 := 8) dX10_has_5 (by decide) rfl hf (fun c1 hf => ?_) (fun c1 hf => ?_)
  · refine ab_iconst (pc2 := 13) (v := 0) dX10_has_12 rfl ab_k_iconst_0 ?_
    cases Option.some.inj hf
    exact ab_retI dX10_has_13 (Or.inr ⟨rfl, (Or.inl rfl)⟩) (Nat.le_refl _) (Nat.le_refl _) ⟨rfl, rfl, (Or.inl rfl)⟩
  · refine ab_iconst (pc2 := 9) (v := 1) dX10_has_8 rfl ab_k_iconst_1 ?_
    refine ab_goto (tgt := 13) dX10_has_9 (by decide) ?_
    cases Option.some.inj hf
    exact ab_retI dX10_has_13 (Or.inr ⟨rfl, (Or.inr rfl)⟩) (Nat.le_refl _) (Nat.le_refl _) ⟨rfl, rfl, (Or.inr rfl)⟩
set_option maxHeartbeats 4000000 in
set_option maxRecDepth 100000 in
theorem m_X10_has {d : Nat} {i0 : Int32} {i1 : Int32} {h : ab_HP} {r : Int32}  (hf : f_X10_has i0 i1 h = some r) : ab_MET mX10_has (d + 0) 0 0 [.int i0, .int i1] h (ab_Pb r h) := ab_met (by decide +kernel) (by decide +kernel) (Nat.le_of_ble_eq_true rfl) rfl (x_X10_has  hf)
set_option maxHeartbeats 4000000 in
set_option maxRecDepth 100000 in
theorem x_X9_nailCost {d : Nat} {t0 : Nat} {i1 : Int32} {h : ab_HP} {r : Int32} (ht0 : (ab_shp t0).1 = 1) (hf : f_X9_nailCost t0 i1 h = some r) : ab_T mX9_nailCost (d + 0) 0 0 0 0 0 [some (va_rf (some t0)), some (.int i1), none] [] h (ab_Pi r h) := by
  unfold f_X9_nailCost at hf
  refine ab_aload_n (x := _) (pc2 := 1) dX9_nailCost_0 rfl rfl ?_
  refine ab_getI (pc2 := 4) rfl ht0 fa_X9_21 (by decide) dX9_nailCost_1 rfl ?_
  refine ab_iload_n (pc2 := 5) dX9_nailCost_4 rfl rfl ?_
  refine ab_aload_n (x := _) (pc2 := 6) dX9_nailCost_5 rfl rfl ?_
  refine ab_getI (pc2 := 9) rfl ht0 fa_X9_37 (by decide) dX9_nailCost_6 rfl ?_
  refine ab_imul (pc2 := 10) dX9_nailCost_9 rfl ?_
  refine ab_iadd (pc2 := 11) dX9_nailCost_10 rfl ?_
  refine ab_istore_n (pc2 := 12) (lo2 := [some (va_rf _), some (.int _), some (.int _)]) dX9_nailCost_11 rfl (by decide) rfl ?_
  refine ab_iload_n (pc2 := 13) dX9_nailCost_12 rfl rfl ?_
  refine ab_if_ge (tgt := 20) (pc2 := 16) dX9_nailCost_13 (by decide) rfl hf (fun c1 hf => ?_) (fun c1 hf => ?_)
  · refine ab_iload_n (pc2 := 21) dX9_nailCost_20 rfl rfl ?_
    cases Option.some.inj hf
    exact ab_retI dX9_nailCost_21 (Or.inl rfl) (Nat.le_refl _) (Nat.le_refl _) ⟨rfl, rfl⟩
  · refine ab_iconst (pc2 := 17) (v := 0) dX9_nailCost_16 rfl ab_k_iconst_0 ?_
    refine ab_goto (tgt := 21) dX9_nailCost_17 (by decide) ?_
    cases Option.some.inj hf
    exact ab_retI dX9_nailCost_21 (Or.inl rfl) (Nat.le_refl _) (Nat.le_refl _) ⟨rfl, rfl⟩
set_option maxHeartbeats 4000000 in
set_option maxRecDepth 100000 in
theorem m_X9_nailCost {d : Nat} {t0 : Nat} {i1 : Int32} {h : ab_HP} {r : Int32} (ht0 : (ab_shp t0).1 = 1) (hf : f_X9_nailCost t0 i1 h = some r) : ab_MET mX9_nailCost (d + 0) 0 0 [va_rf (some t0), .int i1] h (ab_Pi r h) := ab_met (by decide +kernel) (by decide +kernel) (Nat.le_of_ble_eq_true rfl) rfl (x_X9_nailCost ht0 hf)
set_option maxHeartbeats 4000000 in
set_option maxRecDepth 100000 in
theorem x_X10_nailAt {d : Nat} {t0 : Nat} {i1 : Int32} {h : ab_HP} {r : ab_HP} (ht0 : (ab_shp t0).1 = 2) (hf : f_X10_nailAt t0 i1 h = some r) : ab_T mX10_nailAt (d + 1) 0 0 0 0 0 [some (va_rf (some t0)), some (.int i1), none] [] h (ab_Pv r) := by
  unfold f_X10_nailAt at hf
  refine ab_aload_n (x := _) (pc2 := 1) dX10_nailAt_0 rfl rfl ?_
  refine ab_getR (pc2 := 4) rfl ht0 fa_X10_24 dX10_nailAt_1 rfl (fun T1 => ?_)
  refine ab_nnul (tgt := 11) (pc2 := 7) dX10_nailAt_4 (by decide) rfl hf (fun hq2 hf => ?_) (fun q2 hq2 hf => ?_)
  · refine ab_iconst (pc2 := 8) (v := 0) dX10_nailAt_7 rfl ab_k_iconst_0 ?_
    refine ab_goto (tgt := 19) dX10_nailAt_8 (by decide) ?_
    refine ab_istore_n (pc2 := 20) (lo2 := [some (va_rf _), some (.int _), some (.int _)]) dX10_nailAt_19 rfl (by decide) rfl ?_
    refine ab_aload_n (x := _) (pc2 := 21) dX10_nailAt_20 rfl rfl ?_
    refine ab_getI (pc2 := 24) rfl ht0 fa_X10_41 (by decide) dX10_nailAt_21 rfl ?_
    refine ab_iload_n (pc2 := 25) dX10_nailAt_24 rfl rfl ?_
    refine ab_icmp_lt (tgt := 72) (pc2 := 28) dX10_nailAt_25 (by decide) rfl hf (fun c3 hf => ?_) (fun c3 hf => ?_)
    · cases Option.some.inj hf
      exact ab_retV dX10_nailAt_72 rfl (Nat.le_refl _) (Nat.le_refl _) ⟨rfl, rfl⟩
    · refine ab_aload_n (x := _) (pc2 := 29) dX10_nailAt_28 rfl rfl ?_
      refine ab_dup (pc2 := 30) dX10_nailAt_29 rfl (ab_rf1 _) ?_
      refine ab_getI (pc2 := 33) rfl ht0 fa_X10_41 (by decide) dX10_nailAt_30 rfl ?_
      refine ab_iload_n (pc2 := 34) dX10_nailAt_33 rfl rfl ?_
      refine ab_isub (pc2 := 35) dX10_nailAt_34 rfl ?_
      have hf := ab_let_e hf
      refine ab_putI (pc2 := 38) rfl ht0 fa_X10_41 (Or.inl rfl) (fun z => by cases z) dX10_nailAt_35 rfl ?_
      refine ab_aload_n (x := _) (pc2 := 39) dX10_nailAt_38 rfl rfl ?_
      refine ab_dup (pc2 := 40) dX10_nailAt_39 rfl (ab_rf1 _) ?_
      refine ab_getI (pc2 := 43) rfl ht0 fa_X10_44 (by decide) dX10_nailAt_40 rfl ?_
      refine ab_iload_n (pc2 := 44) dX10_nailAt_43 rfl rfl ?_
      refine ab_iadd (pc2 := 45) dX10_nailAt_44 rfl ?_
      have hf := ab_let_e hf
      refine ab_putI (pc2 := 48) rfl ht0 fa_X10_44 (Or.inl rfl) (fun z => by cases z) dX10_nailAt_45 rfl ?_
      refine ab_aload_n (x := _) (pc2 := 49) dX10_nailAt_48 rfl rfl ?_
      refine ab_dup (pc2 := 50) dX10_nailAt_49 rfl (ab_rf1 _) ?_
      refine ab_getI (pc2 := 53) rfl ht0 fa_X10_53 (by decide) dX10_nailAt_50 rfl ?_
      refine ab_iconst (pc2 := 54) (v := 1) dX10_nailAt_53 rfl ab_k_iconst_1 ?_
      refine ab_iload_n (pc2 := 55) dX10_nailAt_54 rfl rfl ?_
      refine ab_ishl (pc2 := 56) dX10_nailAt_55 rfl ?_
      refine ab_ior (pc2 := 57) dX10_nailAt_56 rfl ?_
      have hf := ab_let_e hf
      refine ab_putI (pc2 := 60) rfl ht0 fa_X10_53 (Or.inl rfl) (fun z => by cases z) dX10_nailAt_57 rfl ?_
      refine ab_aload_n (x := _) (pc2 := 61) dX10_nailAt_60 rfl rfl ?_
      refine ab_dup (pc2 := 62) dX10_nailAt_61 rfl (ab_rf1 _) ?_
      refine ab_getI (pc2 := 65) rfl ht0 fa_X10_56 (by decide) dX10_nailAt_62 rfl ?_
      refine ab_iconst (pc2 := 66) (v := 1) dX10_nailAt_65 rfl ab_k_iconst_1 ?_
      refine ab_iload_n (pc2 := 67) dX10_nailAt_66 rfl rfl ?_
      refine ab_ishl (pc2 := 68) dX10_nailAt_67 rfl ?_
      refine ab_ior (pc2 := 69) dX10_nailAt_68 rfl ?_
      have hf := ab_let_e hf
      refine ab_putI (pc2 := 72) rfl ht0 fa_X10_56 (Or.inl rfl) (fun z => by cases z) dX10_nailAt_69 rfl ?_
      cases Option.some.inj hf
      exact ab_retV dX10_nailAt_72 rfl (Nat.le_refl _) (Nat.le_refl _) ⟨rfl, rfl⟩
  · refine ab_aload_n (x := _) (pc2 := 12) dX10_nailAt_11 rfl rfl ?_
    refine ab_getR (pc2 := 15) rfl ht0 fa_X10_24 dX10_nailAt_12 rfl (fun T8 => ?_)
    refine ab_iload_n (pc2 := 16) dX10_nailAt_15 rfl rfl ?_
    obtain ⟨q9, hq9, hf⟩ := ab_bind hf
    obtain ⟨w10, ew10, hf⟩ := ab_bind hf
    refine ab_callV (pc2 := 19) (st := []) hq9 (T8 q9 hq9) (by decide) (m_X9_nailCost (d := (d + 0)) (T8 q9 hq9) ew10) mf_X9_nailCost tw_162 tw_161 ts_X9_nailCost (Or.inl (by decide +kernel)) dX10_nailAt_16 rfl (by omega) (Nat.le_refl _) (Nat.le_refl _) rfl (Nat.le_of_ble_eq_true rfl) (fun v u hp => ?_)
    obtain ⟨rfl, rfl⟩ := hp
    show ab_T _ _ _ _ 0 0 19 _ (.int _ :: []) _ _
    refine ab_istore_n (pc2 := 20) (lo2 := [some (va_rf _), some (.int _), some (.int _)]) dX10_nailAt_19 rfl (by decide) rfl ?_
    refine ab_aload_n (x := _) (pc2 := 21) dX10_nailAt_20 rfl rfl ?_
    refine ab_getI (pc2 := 24) rfl ht0 fa_X10_41 (by decide) dX10_nailAt_21 rfl ?_
    refine ab_iload_n (pc2 := 25) dX10_nailAt_24 rfl rfl ?_
    refine ab_icmp_lt (tgt := 72) (pc2 := 28) dX10_nailAt_25 (by decide) rfl hf (fun c11 hf => ?_) (fun c11 hf => ?_)
    · cases Option.some.inj hf
      exact ab_retV dX10_nailAt_72 rfl (Nat.le_refl _) (Nat.le_refl _) ⟨rfl, rfl⟩
    · refine ab_aload_n (x := _) (pc2 := 29) dX10_nailAt_28 rfl rfl ?_
      refine ab_dup (pc2 := 30) dX10_nailAt_29 rfl (ab_rf1 _) ?_
      refine ab_getI (pc2 := 33) rfl ht0 fa_X10_41 (by decide) dX10_nailAt_30 rfl ?_
      refine ab_iload_n (pc2 := 34) dX10_nailAt_33 rfl rfl ?_
      refine ab_isub (pc2 := 35) dX10_nailAt_34 rfl ?_
      have hf := ab_let_e hf
      refine ab_putI (pc2 := 38) rfl ht0 fa_X10_41 (Or.inl rfl) (fun z => by cases z) dX10_nailAt_35 rfl ?_
      refine ab_aload_n (x := _) (pc2 := 39) dX10_nailAt_38 rfl rfl ?_
      refine ab_dup (pc2 := 40) dX10_nailAt_39 rfl (ab_rf1 _) ?_
      refine ab_getI (pc2 := 43) rfl ht0 fa_X10_44 (by decide) dX10_nailAt_40 rfl ?_
      refine ab_iload_n (pc2 := 44) dX10_nailAt_43 rfl rfl ?_
      refine ab_iadd (pc2 := 45) dX10_nailAt_44 rfl ?_
      have hf := ab_let_e hf
      refine ab_putI (pc2 := 48) rfl ht0 fa_X10_44 (Or.inl rfl) (fun z => by cases z) dX10_nailAt_45 rfl ?_
      refine ab_aload_n (x := _) (pc2 := 49) dX10_nailAt_48 rfl rfl ?_
      refine ab_dup (pc2 := 50) dX10_nailAt_49 rfl (ab_rf1 _) ?_
      refine ab_getI (pc2 := 53) rfl ht0 fa_X10_53 (by decide) dX10_nailAt_50 rfl ?_
      refine ab_iconst (pc2 := 54) (v := 1) dX10_nailAt_53 rfl ab_k_iconst_1 ?_
      refine ab_iload_n (pc2 := 55) dX10_nailAt_54 rfl rfl ?_
      refine ab_ishl (pc2 := 56) dX10_nailAt_55 rfl ?_
      refine ab_ior (pc2 := 57) dX10_nailAt_56 rfl ?_
      have hf := ab_let_e hf
      refine ab_putI (pc2 := 60) rfl ht0 fa_X10_53 (Or.inl rfl) (fun z => by cases z) dX10_nailAt_57 rfl ?_
      refine ab_aload_n (x := _) (pc2 := 61) dX10_nailAt_60 rfl rfl ?_
      refine ab_dup (pc2 := 62) dX10_nailAt_61 rfl (ab_rf1 _) ?_
      refine ab_getI (pc2 := 65) rfl ht0 fa_X10_56 (by decide) dX10_nailAt_62 rfl ?_
      refine ab_iconst (pc2 := 66) (v := 1) dX10_nailAt_65 rfl ab_k_iconst_1 ?_
      refine ab_iload_n (pc2 := 67) dX10_nailAt_66 rfl rfl ?_
      refine ab_ishl (pc2 := 68) dX10_nailAt_67 rfl ?_
      refine ab_ior (pc2 := 69) dX10_nailAt_68 rfl ?_
      have hf := ab_let_e hf
      refine ab_putI (pc2 := 72) rfl ht0 fa_X10_56 (Or.inl rfl) (fun z => by cases z) dX10_nailAt_69 rfl ?_
      cases Option.some.inj hf
      exact ab_retV dX10_nailAt_72 rfl (Nat.le_refl _) (Nat.le_refl _) ⟨rfl, rfl⟩
set_option maxHeartbeats 4000000 in
set_option maxRecDepth 100000 in
theorem m_X10_nailAt {d : Nat} {t0 : Nat} {i1 : Int32} {h : ab_HP} {r : ab_HP} (ht0 : (ab_shp t0).1 = 2) (hf : f_X10_nailAt t0 i1 h = some r) : ab_MET mX10_nailAt (d + 1) 0 0 [va_rf (some t0), .int i1] h (ab_Pv r) := ab_met (by decide +kernel) (by decide +kernel) (Nat.le_of_ble_eq_true rfl) rfl (x_X10_nailAt ht0 hf)
set_option maxHeartbeats 4000000 in
set_option maxRecDepth 100000 in
theorem x_X10_evenPlace_b120 {d : Nat} {t0 : Nat} {i1 : Int32} {i2 : Int32} {h : ab_HP} {r : ab_HP} (ht0 : (ab_shp t0).1 = 2) (hf : f_X10_evenPlace_b120 t0 i1 i2 h = some r) : ab_T mX10_evenPlace (d + 2) 0 0 0 0 120 [some (va_rf (some t0)), some (.int i1), some (.int i2), none, none] [] h (ab_Pv r) := by
  unfold f_X10_evenPlace_b120 at hf
  refine ab_iload_n (pc2 := 121) dX10_evenPlace_120 rfl rfl ?_
  refine ab_iload_n (pc2 := 122) dX10_evenPlace_121 rfl rfl ?_
  obtain ⟨w17, ew17, hf⟩ := ab_bind hf
  refine ab_callS (pc2 := 125) (st := []) (m_X10_has (d := (d + 1)) ew17) mf_X10_has tw_170 tw_171 dX10_evenPlace_122 rfl (by omega) (Nat.le_refl _) (Nat.le_refl _) rfl (Nat.le_of_ble_eq_true rfl) (fun v u hp => ?_)
  obtain ⟨rfl, rfl, z18⟩ := hp
  show ab_T _ _ _ _ 0 0 125 _ (.int _ :: []) _ _
  refine ab_if_eq (tgt := 133) (pc2 := 128) dX10_evenPlace_125 (by decide) rfl hf (fun c19 hf => ?_) (fun c19 hf => ?_)
  · cases Option.some.inj hf
    exact ab_retV dX10_evenPlace_133 rfl (Nat.le_refl _) (Nat.le_refl _) ⟨rfl, rfl⟩
  · refine ab_aload_n (x := _) (pc2 := 129) dX10_evenPlace_128 rfl rfl ?_
    refine ab_iload_n (pc2 := 130) dX10_evenPlace_129 rfl rfl ?_
    obtain ⟨w20, ew20, hf⟩ := ab_bind hf
    refine ab_callV (pc2 := 133) (st := []) rfl ht0 (by decide) (m_X10_nailAt (d := (d + 0)) ht0 ew20) mf_X10_nailAt tw_173 tw_172 ts_X10_nailAt (Or.inl (by decide +kernel)) dX10_evenPlace_130 rfl (by omega) (Nat.le_refl _) (Nat.le_refl _) rfl (Nat.le_of_ble_eq_true rfl) (fun v u hp => ?_)
    obtain ⟨rfl, rfl⟩ := hp
    show ab_T _ _ _ _ 0 0 133 _ ([]) _ _
    cases Option.some.inj hf
    exact ab_retV dX10_evenPlace_133 rfl (Nat.le_refl _) (Nat.le_refl _) ⟨rfl, rfl⟩
set_option maxHeartbeats 4000000 in
set_option maxRecDepth 100000 in
theorem x_X10_evenPlace {d : Nat} {t0 : Nat} {i1 : Int32} {i2 : Int32} {h : ab_HP} {r : ab_HP} (ht0 : (ab_shp t0).1 = 2) (hf : f_X10_evenPlace t0 i1 i2 h = some r) : ab_T mX10_evenPlace (d + 2) 0 0 0 0 0 [some (va_rf (some t0)), some (.int i1), some (.int i2), none, none] [] h (ab_Pv r) := by
  unfold f_X10_evenPlace at hf
  refine ab_aload_n (x := _) (pc2 := 1) dX10_evenPlace_0 rfl rfl ?_
  refine ab_iload_n (pc2 := 2) dX10_evenPlace_1 rfl rfl ?_
  obtain ⟨w1, ew1, hf⟩ := ab_bind hf
  refine ab_callV (pc2 := 5) (st := []) rfl ht0 (by decide) (m_X10_deedAt (d := (d + 1)) ht0 ew1) mf_X10_deedAt tw_164 tw_163 ts_X10_deedAt (Or.inl (by decide +kernel)) dX10_evenPlace_2 rfl (by omega) (Nat.le_refl _) (Nat.le_refl _) rfl (Nat.le_of_ble_eq_true rfl) (fun v u hp => ?_)
  obtain ⟨rfl, rfl, T2⟩ := hp
  show ab_T _ _ _ _ 0 0 5 _ (va_rf _ :: []) _ _
  refine ab_astore_n (pc2 := 6) (lo2 := [some (va_rf _), some (.int _), some (.int _), some (va_rf _), none]) dX10_evenPlace_5 rfl (by decide) rfl ?_
  refine ab_aload_n (x := _) (pc2 := 7) dX10_evenPlace_6 rfl rfl ?_
  refine ab_nul (tgt := 25) (pc2 := 10) dX10_evenPlace_7 (by decide) rfl hf (fun hq3 hf => ?_) (fun q3 hq3 hf => ?_)
  · cases Option.some.inj hf
    exact ab_retV dX10_evenPlace_25 rfl (Nat.le_refl _) (Nat.le_refl _) ⟨rfl, rfl⟩
  · refine ab_aload_n (x := _) (pc2 := 11) dX10_evenPlace_10 rfl rfl ?_
    refine ab_aload_n (x := _) (pc2 := 12) dX10_evenPlace_11 rfl rfl ?_
    refine ab_getI (pc2 := 15) rfl ht0 fa_X10_38 (by decide) dX10_evenPlace_12 rfl ?_
    refine ab_aload_n (x := _) (pc2 := 16) dX10_evenPlace_15 rfl rfl ?_
    refine ab_getI (pc2 := 19) rfl ht0 fa_X10_41 (by decide) dX10_evenPlace_16 rfl ?_
    obtain ⟨w4, ew4, hf⟩ := ab_bind hf
    refine ab_callV (pc2 := 22) (st := []) hq3 (T2 q3 hq3) (by decide) (m_X1_mayBeDone (d := (d + 0)) (T2 q3 hq3) ew4) mf_X1_mayBeDone tw_165 tw_149 ts_X1_mayBeDone (Or.inr tw_150) dX10_evenPlace_19 rfl (by omega) (Nat.le_refl _) (Nat.le_refl _) rfl (Nat.le_of_ble_eq_true rfl) (fun v u hp => ?_)
    obtain ⟨rfl, rfl, z5⟩ := hp
    show ab_T _ _ _ _ 0 0 22 _ (.int _ :: []) _ _
    refine ab_if_ne (tgt := 26) (pc2 := 25) dX10_evenPlace_22 (by decide) rfl hf (fun c6 hf => ?_) (fun c6 hf => ?_)
    · refine ab_aload_n (x := _) (pc2 := 27) dX10_evenPlace_26 rfl rfl ?_
      refine ab_aload_n (x := _) (pc2 := 28) dX10_evenPlace_27 rfl rfl ?_
      refine ab_getI (pc2 := 31) rfl ht0 fa_X10_38 (by decide) dX10_evenPlace_28 rfl ?_
      obtain ⟨w7, ew7, hf⟩ := ab_bind hf
      refine ab_callV (pc2 := 34) (st := []) hq3 (T2 q3 hq3) (by decide) (m_X1_marksBehind (d := (d + 1)) (T2 q3 hq3) ew7) mf_X1_marksBehind tw_168 tw_166 ts_X1_marksBehind (Or.inr tw_167) dX10_evenPlace_31 rfl (by omega) (Nat.le_refl _) (Nat.le_refl _) rfl (Nat.le_of_ble_eq_true rfl) (fun v u hp => ?_)
      obtain ⟨rfl, rfl⟩ := hp
      show ab_T _ _ _ _ 0 0 34 _ (.int _ :: []) _ _
      refine ab_istore (pc2 := 36) (lo2 := [some (va_rf _), some (.int _), some (.int _), some (va_rf _), some (.int _)]) dX10_evenPlace_34 rfl (by decide) rfl ?_
      refine ab_aload_n (x := _) (pc2 := 37) dX10_evenPlace_36 rfl rfl ?_
      refine ab_getR (pc2 := 40) rfl ht0 fa_X10_17 dX10_evenPlace_37 rfl (fun T8 => ?_)
      refine ab_iload_n (pc2 := 41) dX10_evenPlace_40 rfl rfl ?_
      refine ab_iload (pc2 := 43) dX10_evenPlace_41 rfl rfl ?_
      refine ab_aload_n (x := _) (pc2 := 44) dX10_evenPlace_43 rfl rfl ?_
      refine ab_getI (pc2 := 47) rfl ht0 fa_X10_38 (by decide) dX10_evenPlace_44 rfl ?_
      refine ab_iconst (pc2 := 48) (v := (-1)) dX10_evenPlace_47 rfl ab_k_iconst_m1 ?_
      refine ab_ixor (pc2 := 49) dX10_evenPlace_48 rfl ?_
      refine ab_iand (pc2 := 50) dX10_evenPlace_49 rfl ?_
      obtain ⟨w9, ew9, hf⟩ := ab_bind hf
      refine ab_callSN (pc2 := 53) (st := []) (m_X11_store (d := (d + 1)) T8 ew9) mf_X11_store tn_X10_90 tw_169 dX10_evenPlace_50 rfl (by omega) (Nat.le_refl _) (Nat.le_refl _) rfl (Nat.le_of_ble_eq_true rfl) (fun v u hp => ?_)
      obtain ⟨rfl, rfl⟩ := hp
      show ab_T _ _ _ _ 0 0 53 _ ([]) _ _
      refine ab_aload_n (x := _) (pc2 := 54) dX10_evenPlace_53 rfl rfl ?_
      refine ab_getR (pc2 := 57) rfl ht0 fa_X10_21 dX10_evenPlace_54 rfl (fun T10 => ?_)
      refine ab_iload_n (pc2 := 58) dX10_evenPlace_57 rfl rfl ?_
      refine ab_aload_n (x := _) (pc2 := 59) dX10_evenPlace_58 rfl rfl ?_
      refine ab_getI (pc2 := 62) rfl ht0 fa_X10_38 (by decide) dX10_evenPlace_59 rfl ?_
      refine ab_iload (pc2 := 64) dX10_evenPlace_62 rfl rfl ?_
      refine ab_iconst (pc2 := 65) (v := (-1)) dX10_evenPlace_64 rfl ab_k_iconst_m1 ?_
      refine ab_ixor (pc2 := 66) dX10_evenPlace_65 rfl ?_
      refine ab_iand (pc2 := 67) dX10_evenPlace_66 rfl ?_
      obtain ⟨w11, ew11, hf⟩ := ab_bind hf
      refine ab_callSN (pc2 := 70) (st := []) (m_X11_store (d := (d + 1)) T10 ew11) mf_X11_store tn_X10_90 tw_169 dX10_evenPlace_67 rfl (by omega) (Nat.le_refl _) (Nat.le_refl _) rfl (Nat.le_of_ble_eq_true rfl) (fun v u hp => ?_)
      obtain ⟨rfl, rfl⟩ := hp
      show ab_T _ _ _ _ 0 0 70 _ ([]) _ _
      refine ab_aload_n (x := _) (pc2 := 71) dX10_evenPlace_70 rfl rfl ?_
      refine ab_iload (pc2 := 73) dX10_evenPlace_71 rfl rfl ?_
      have hf := ab_let_e hf
      refine ab_putI (pc2 := 76) rfl ht0 fa_X10_38 (Or.inl rfl) (fun z => by cases z) dX10_evenPlace_73 rfl ?_
      refine ab_aload_n (x := _) (pc2 := 77) dX10_evenPlace_76 rfl rfl ?_
      refine ab_dup (pc2 := 78) dX10_evenPlace_77 rfl (ab_rf1 _) ?_
      refine ab_getI (pc2 := 81) rfl ht0 fa_X10_41 (by decide) dX10_evenPlace_78 rfl ?_
      refine ab_aload_n (x := _) (pc2 := 82) dX10_evenPlace_81 rfl rfl ?_
      refine ab_getI (pc2 := 85) hq3 (T2 q3 hq3) fa_X10_94 (by decide) dX10_evenPlace_82 rfl ?_
      refine ab_isub (pc2 := 86) dX10_evenPlace_85 rfl ?_
      have hf := ab_let_e hf
      refine ab_putI (pc2 := 89) rfl ht0 fa_X10_41 (Or.inl rfl) (fun z => by cases z) dX10_evenPlace_86 rfl ?_
      refine ab_aload_n (x := _) (pc2 := 90) dX10_evenPlace_89 rfl rfl ?_
      refine ab_dup (pc2 := 91) dX10_evenPlace_90 rfl (ab_rf1 _) ?_
      refine ab_getI (pc2 := 94) rfl ht0 fa_X10_47 (by decide) dX10_evenPlace_91 rfl ?_
      refine ab_iconst (pc2 := 95) (v := 1) dX10_evenPlace_94 rfl ab_k_iconst_1 ?_
      refine ab_iload_n (pc2 := 96) dX10_evenPlace_95 rfl rfl ?_
      refine ab_ishl (pc2 := 97) dX10_evenPlace_96 rfl ?_
      refine ab_ior (pc2 := 98) dX10_evenPlace_97 rfl ?_
      have hf := ab_let_e hf
      refine ab_putI (pc2 := 101) rfl ht0 fa_X10_47 (Or.inl rfl) (fun z => by cases z) dX10_evenPlace_98 rfl ?_
      refine ab_aload_n (x := _) (pc2 := 102) dX10_evenPlace_101 rfl rfl ?_
      refine ab_getI (pc2 := 105) hq3 (T2 q3 hq3) fa_X10_97 (by decide) dX10_evenPlace_102 rfl ?_
      refine ab_if_eq (tgt := 120) (pc2 := 108) dX10_evenPlace_105 (by decide) rfl hf (fun c15 hf => ?_) (fun c15 hf => ?_)
      · exact ab_weak (x_X10_evenPlace_b120 ht0 hf) (ab_leS (ab_leS (ab_leS (ab_leN (ab_leN ab_le0)))))
      · refine ab_aload_n (x := _) (pc2 := 109) dX10_evenPlace_108 rfl rfl ?_
        refine ab_dup (pc2 := 110) dX10_evenPlace_109 rfl (ab_rf1 _) ?_
        refine ab_getI (pc2 := 113) rfl ht0 fa_X10_56 (by decide) dX10_evenPlace_110 rfl ?_
        refine ab_iconst (pc2 := 114) (v := 1) dX10_evenPlace_113 rfl ab_k_iconst_1 ?_
        refine ab_iload_n (pc2 := 115) dX10_evenPlace_114 rfl rfl ?_
        refine ab_ishl (pc2 := 116) dX10_evenPlace_115 rfl ?_
        refine ab_ior (pc2 := 117) dX10_evenPlace_116 rfl ?_
        have hf := ab_let_e hf
        refine ab_putI (pc2 := 120) rfl ht0 fa_X10_56 (Or.inl rfl) (fun z => by cases z) dX10_evenPlace_117 rfl ?_
        exact ab_weak (x_X10_evenPlace_b120 ht0 hf) (ab_leS (ab_leS (ab_leS (ab_leN (ab_leN ab_le0)))))
    · cases Option.some.inj hf
      exact ab_retV dX10_evenPlace_25 rfl (Nat.le_refl _) (Nat.le_refl _) ⟨rfl, rfl⟩
set_option maxHeartbeats 4000000 in
set_option maxRecDepth 100000 in
theorem m_X10_evenPlace {d : Nat} {t0 : Nat} {i1 : Int32} {i2 : Int32} {h : ab_HP} {r : ab_HP} (ht0 : (ab_shp t0).1 = 2) (hf : f_X10_evenPlace t0 i1 i2 h = some r) : ab_MET mX10_evenPlace (d + 2) 0 0 [va_rf (some t0), .int i1, .int i2] h (ab_Pv r) := ab_met (by decide +kernel) (by decide +kernel) (Nat.le_of_ble_eq_true rfl) rfl (x_X10_evenPlace ht0 hf)
set_option maxHeartbeats 4000000 in
set_option maxRecDepth 100000 in
theorem x_X10_evenYear_l2 {d : Nat} {t0 : Nat} {r : ab_HP} (ht0 : (ab_shp t0).1 = 2) : ∀ (n : Nat) (i1 : Int32) (i2 : Int32) (h : ab_HP), f_X10_evenYear_l2 t0 n i1 i2 h = some r → ab_T mX10_evenYear (d + 3) 0 0 0 0 2 [some (va_rf (some t0)), some (.int i1), some (.int i2)] [] h (ab_Pv r) := by
  intro n
  induction n with
  | zero =>
    intro i1 i2 h hf
    rw [f_X10_evenYear_l2] at hf
    cases hf
  | succ n ih =>
    intro i1 i2 h hf
    rw [f_X10_evenYear_l2] at hf
    refine ab_iload_n (pc2 := 3) dX10_evenYear_2 rfl rfl ?_
    refine ab_aload_n (x := _) (pc2 := 4) dX10_evenYear_3 rfl rfl ?_
    refine ab_getI (pc2 := 7) rfl ht0 fa_X10_35 (by decide) dX10_evenYear_4 rfl ?_
    refine ab_icmp_ge (tgt := 22) (pc2 := 10) dX10_evenYear_7 (by decide) rfl hf (fun c1 hf => ?_) (fun c1 hf => ?_)
    · cases Option.some.inj hf
      exact ab_retV dX10_evenYear_22 rfl (Nat.le_refl _) (Nat.le_refl _) ⟨rfl, rfl⟩
    · refine ab_aload_n (x := _) (pc2 := 11) dX10_evenYear_10 rfl rfl ?_
      refine ab_iload_n (pc2 := 12) dX10_evenYear_11 rfl rfl ?_
      refine ab_iload_n (pc2 := 13) dX10_evenYear_12 rfl rfl ?_
      obtain ⟨w2, ew2, hf⟩ := ab_bind hf
      refine ab_callV (pc2 := 16) (st := []) rfl ht0 (by decide) (m_X10_evenPlace (d := (d + 0)) ht0 ew2) mf_X10_evenPlace tw_175 tw_174 ts_X10_evenPlace (Or.inl (by decide +kernel)) dX10_evenYear_13 rfl (by omega) (Nat.le_refl _) (Nat.le_refl _) rfl (Nat.le_of_ble_eq_true rfl) (fun v u hp => ?_)
      obtain ⟨rfl, rfl⟩ := hp
      show ab_T _ _ _ _ 0 0 16 _ ([]) _ _
      refine ab_iinc (pc2 := 19) (v := _ + 1) (lo2 := [some (va_rf _), some (.int _), some (.int _)]) dX10_evenYear_16 rfl rfl rfl (by decide) rfl ?_
      refine ab_goto (tgt := 2) dX10_evenYear_19 (by decide) ?_
      exact ab_weak (ih _ _ _ hf) (ab_leS (ab_leS (ab_leS ab_le0)))
set_option maxHeartbeats 4000000 in
set_option maxRecDepth 100000 in
theorem x_X10_evenYear {d : Nat} {t0 : Nat} {i1 : Int32} {h : ab_HP} {r : ab_HP} (ht0 : (ab_shp t0).1 = 2) (hf : f_X10_evenYear t0 i1 h = some r) : ab_T mX10_evenYear (d + 3) 0 0 0 0 0 [some (va_rf (some t0)), some (.int i1), none] [] h (ab_Pv r) := by
  unfold f_X10_evenYear at hf
  refine ab_iconst (pc2 := 1) (v := 0) dX10_evenYear_0 rfl ab_k_iconst_0 ?_
  refine ab_istore_n (pc2 := 2) (lo2 := [some (va_rf _), some (.int _), some (.int _)]) dX10_evenYear_1 rfl (by decide) rfl ?_
  exact ab_weak (x_X10_evenYear_l2 ht0 _ _ _ _ hf) (ab_leS (ab_leS (ab_leS ab_le0)))
set_option maxHeartbeats 4000000 in
set_option maxRecDepth 100000 in
theorem m_X10_evenYear {d : Nat} {t0 : Nat} {i1 : Int32} {h : ab_HP} {r : ab_HP} (ht0 : (ab_shp t0).1 = 2) (hf : f_X10_evenYear t0 i1 h = some r) : ab_MET mX10_evenYear (d + 3) 0 0 [va_rf (some t0), .int i1] h (ab_Pv r) := ab_met (by decide +kernel) (by decide +kernel) (Nat.le_of_ble_eq_true rfl) rfl (x_X10_evenYear ht0 hf)
set_option maxHeartbeats 4000000 in
set_option maxRecDepth 100000 in
theorem x_X10_stays_l32 {d : Nat} {t0 : Nat} {r : Int32} (ht0 : (ab_shp t0).1 = 2) : ∀ (n : Nat) (i2 : Int32) (i3 : Int32) (h : ab_HP), f_X10_stays_l32 t0 n i2 i3 h = some r → ab_T mX10_stays (d + 1) 0 0 0 0 32 [some (va_rf (some t0)), none, some (.int i2), some (.int i3), none] [] h (ab_Pb r h) := by
  intro n
  induction n with
  | zero =>
    intro i2 i3 h hf
    rw [f_X10_stays_l32] at hf
    cases hf
  | succ n ih =>
    intro i2 i3 h hf
    rw [f_X10_stays_l32] at hf
    refine ab_iload_n (pc2 := 33) dX10_stays_32 rfl rfl ?_
    refine ab_aload_n (x := _) (pc2 := 34) dX10_stays_33 rfl rfl ?_
    refine ab_getI (pc2 := 37) rfl ht0 fa_X10_35 (by decide) dX10_stays_34 rfl ?_
    refine ab_icmp_ge (tgt := 81) (pc2 := 40) dX10_stays_37 (by decide) rfl hf (fun c6 hf => ?_) (fun c6 hf => ?_)
    · refine ab_iconst (pc2 := 82) (v := 0) dX10_stays_81 rfl ab_k_iconst_0 ?_
      cases Option.some.inj hf
      exact ab_retI dX10_stays_82 (Or.inr ⟨rfl, (Or.inl rfl)⟩) (Nat.le_refl _) (Nat.le_refl _) ⟨rfl, rfl, (Or.inl rfl)⟩
    · refine ab_aload_n (x := _) (pc2 := 41) dX10_stays_40 rfl rfl ?_
      refine ab_iload_n (pc2 := 42) dX10_stays_41 rfl rfl ?_
      obtain ⟨w7, ew7, hf⟩ := ab_bind hf
      refine ab_callV (pc2 := 45) (st := []) rfl ht0 (by decide) (m_X10_deedAt (d := (d + 0)) ht0 ew7) mf_X10_deedAt tw_164 tw_163 ts_X10_deedAt (Or.inl (by decide +kernel)) dX10_stays_42 rfl (by omega) (Nat.le_refl _) (Nat.le_refl _) rfl (Nat.le_of_ble_eq_true rfl) (fun v u hp => ?_)
      obtain ⟨rfl, rfl, T8⟩ := hp
      show ab_T _ _ _ _ 0 0 45 _ (va_rf _ :: []) _ _
      refine ab_astore (pc2 := 47) (lo2 := [some (va_rf _), none, some (.int _), some (.int _), some (va_rf _)]) dX10_stays_45 rfl (by decide) rfl ?_
      refine ab_aload (x := _) (pc2 := 49) dX10_stays_47 rfl rfl ?_
      refine ab_nul (tgt := 75) (pc2 := 52) dX10_stays_49 (by decide) rfl hf (fun hq9 hf => ?_) (fun q9 hq9 hf => ?_)
      · refine ab_iinc (pc2 := 78) (v := _ + 1) (lo2 := [some (va_rf _), none, some (.int _), some (.int _), some (va_rf _)]) dX10_stays_75 rfl rfl rfl (by decide) rfl ?_
        refine ab_goto (tgt := 32) dX10_stays_78 (by decide) ?_
        exact ab_weak (ih _ _ _ hf) (ab_leS (ab_leN (ab_leS (ab_leS (ab_leN ab_le0)))))
      · refine ab_aload_n (x := _) (pc2 := 53) dX10_stays_52 rfl rfl ?_
        refine ab_getI (pc2 := 56) rfl ht0 fa_X10_56 (by decide) dX10_stays_53 rfl ?_
        refine ab_iload_n (pc2 := 57) dX10_stays_56 rfl rfl ?_
        obtain ⟨w10, ew10, hf⟩ := ab_bind hf
        refine ab_callS (pc2 := 60) (st := []) (m_X10_has (d := (d + 0)) ew10) mf_X10_has tw_170 tw_171 dX10_stays_57 rfl (by omega) (Nat.le_refl _) (Nat.le_refl _) rfl (Nat.le_of_ble_eq_true rfl) (fun v u hp => ?_)
        obtain ⟨rfl, rfl, z11⟩ := hp
        show ab_T _ _ _ _ 0 0 60 _ (.int _ :: []) _ _
        refine ab_if_eq (tgt := 75) (pc2 := 63) dX10_stays_60 (by decide) rfl hf (fun c12 hf => ?_) (fun c12 hf => ?_)
        · refine ab_iinc (pc2 := 78) (v := _ + 1) (lo2 := [some (va_rf _), none, some (.int _), some (.int _), some (va_rf _)]) dX10_stays_75 rfl rfl rfl (by decide) rfl ?_
          refine ab_goto (tgt := 32) dX10_stays_78 (by decide) ?_
          exact ab_weak (ih _ _ _ hf) (ab_leS (ab_leN (ab_leS (ab_leS (ab_leN ab_le0)))))
        · refine ab_aload (x := _) (pc2 := 65) dX10_stays_63 rfl rfl ?_
          refine ab_getI (pc2 := 68) hq9 (T8 q9 hq9) fa_X10_124 (by decide) dX10_stays_65 rfl ?_
          refine ab_iload_n (pc2 := 69) dX10_stays_68 rfl rfl ?_
          refine ab_iand (pc2 := 70) dX10_stays_69 rfl ?_
          refine ab_if_eq (tgt := 75) (pc2 := 73) dX10_stays_70 (by decide) rfl hf (fun c13 hf => ?_) (fun c13 hf => ?_)
          · refine ab_iinc (pc2 := 78) (v := _ + 1) (lo2 := [some (va_rf _), none, some (.int _), some (.int _), some (va_rf _)]) dX10_stays_75 rfl rfl rfl (by decide) rfl ?_
            refine ab_goto (tgt := 32) dX10_stays_78 (by decide) ?_
            exact ab_weak (ih _ _ _ hf) (ab_leS (ab_leN (ab_leS (ab_leS (ab_leN ab_le0)))))
          · refine ab_iconst (pc2 := 74) (v := 1) dX10_stays_73 rfl ab_k_iconst_1 ?_
            cases Option.some.inj hf
            exact ab_retI dX10_stays_74 (Or.inr ⟨rfl, (Or.inr rfl)⟩) (Nat.le_refl _) (Nat.le_refl _) ⟨rfl, rfl, (Or.inr rfl)⟩
set_option maxHeartbeats 4000000 in
set_option maxRecDepth 100000 in
theorem x_X10_stays {d : Nat} {t0 : Nat} {i1 : Int32} {h : ab_HP} {r : Int32} (ht0 : (ab_shp t0).1 = 2) (hf : f_X10_stays t0 i1 h = some r) : ab_T mX10_stays (d + 1) 0 0 0 0 0 [some (va_rf (some t0)), some (.int i1), none, none, none] [] h (ab_Pb r h) := by
  unfold f_X10_stays at hf
  refine ab_aload_n (x := _) (pc2 := 1) dX10_stays_0 rfl rfl ?_
  refine ab_getI (pc2 := 4) rfl ht0 fa_X10_34 (by decide) dX10_stays_1 rfl ?_
  refine ab_iconst (pc2 := 5) (v := 1) dX10_stays_4 rfl ab_k_iconst_1 ?_
  refine ab_icmp_eq (tgt := 10) (pc2 := 8) dX10_stays_5 (by decide) rfl hf (fun c1 hf => ?_) (fun c1 hf => ?_)
  · refine ab_aload_n (x := _) (pc2 := 11) dX10_stays_10 rfl rfl ?_
    refine ab_getR (pc2 := 14) rfl ht0 fa_X10_17 dX10_stays_11 rfl (fun T2 => ?_)
    refine ab_iload_n (pc2 := 15) dX10_stays_14 rfl rfl ?_
    obtain ⟨w3, ew3, hf⟩ := ab_bind hf
    refine ab_callSN (pc2 := 18) (st := []) (m_X11_at (d := (d + 0)) T2 ew3) mf_X11_at tn_X10_120 tw_23 dX10_stays_15 rfl (by omega) (Nat.le_refl _) (Nat.le_refl _) rfl (Nat.le_of_ble_eq_true rfl) (fun v u hp => ?_)
    obtain ⟨rfl, rfl⟩ := hp
    show ab_T _ _ _ _ 0 0 18 _ (.int _ :: []) _ _
    refine ab_aload_n (x := _) (pc2 := 19) dX10_stays_18 rfl rfl ?_
    refine ab_getR (pc2 := 22) rfl ht0 fa_X10_21 dX10_stays_19 rfl (fun T4 => ?_)
    refine ab_iload_n (pc2 := 23) dX10_stays_22 rfl rfl ?_
    obtain ⟨w5, ew5, hf⟩ := ab_bind hf
    refine ab_callSN (pc2 := 26) (st := [_]) (m_X11_at (d := (d + 0)) T4 ew5) mf_X11_at tn_X10_120 tw_23 dX10_stays_23 rfl (by omega) (Nat.le_refl _) (Nat.le_refl _) rfl (Nat.le_of_ble_eq_true rfl) (fun v u hp => ?_)
    obtain ⟨rfl, rfl⟩ := hp
    show ab_T _ _ _ _ 0 0 26 _ (.int _ :: [_]) _ _
    refine ab_ior (pc2 := 27) dX10_stays_26 rfl ?_
    refine ab_istore_n (pc2 := 28) (lo2 := [some (va_rf _), some (.int _), some (.int _), none, none]) dX10_stays_27 rfl (by decide) rfl ?_
    refine ab_iload_n (pc2 := 29) dX10_stays_28 rfl rfl ?_
    refine ab_iconst (pc2 := 30) (v := 1) dX10_stays_29 rfl ab_k_iconst_1 ?_
    refine ab_iadd (pc2 := 31) dX10_stays_30 rfl ?_
    refine ab_istore_n (pc2 := 32) (lo2 := [some (va_rf _), some (.int _), some (.int _), some (.int _), none]) dX10_stays_31 rfl (by decide) rfl ?_
    exact ab_weak (x_X10_stays_l32 ht0 _ _ _ _ hf) (ab_leS (ab_leN (ab_leS (ab_leS (ab_leN ab_le0)))))
  · refine ab_iconst (pc2 := 9) (v := 0) dX10_stays_8 rfl ab_k_iconst_0 ?_
    cases Option.some.inj hf
    exact ab_retI dX10_stays_9 (Or.inr ⟨rfl, (Or.inl rfl)⟩) (Nat.le_refl _) (Nat.le_refl _) ⟨rfl, rfl, (Or.inl rfl)⟩
set_option maxHeartbeats 4000000 in
set_option maxRecDepth 100000 in
theorem m_X10_stays {d : Nat} {t0 : Nat} {i1 : Int32} {h : ab_HP} {r : Int32} (ht0 : (ab_shp t0).1 = 2) (hf : f_X10_stays t0 i1 h = some r) : ab_MET mX10_stays (d + 1) 0 0 [va_rf (some t0), .int i1] h (ab_Pb r h) := ab_met (by decide +kernel) (by decide +kernel) (Nat.le_of_ble_eq_true rfl) rfl (x_X10_stays ht0 hf)
set_option maxHeartbeats 4000000 in
set_option maxRecDepth 100000 in
theorem x_X10_undo {d : Nat} {t0 : Nat} {i1 : Int32} {h : ab_HP} {r : ab_HP} (ht0 : (ab_shp t0).1 = 2) (hf : f_X10_undo t0 i1 h = some r) : ab_T mX10_undo (d + 1) 0 0 0 0 0 [some (va_rf (some t0)), some (.int i1), none] [] h (ab_Pv r) := by
  unfold f_X10_undo at hf
  refine ab_aload_n (x := _) (pc2 := 1) dX10_undo_0 rfl rfl ?_
  refine ab_iload_n (pc2 := 2) dX10_undo_1 rfl rfl ?_
  obtain ⟨w1, ew1, hf⟩ := ab_bind hf
  refine ab_callV (pc2 := 5) (st := []) rfl ht0 (by decide) (m_X10_deedAt (d := (d + 0)) ht0 ew1) mf_X10_deedAt tw_164 tw_163 ts_X10_deedAt (Or.inl (by decide +kernel)) dX10_undo_2 rfl (by omega) (Nat.le_refl _) (Nat.le_refl _) rfl (Nat.le_of_ble_eq_true rfl) (fun v u hp => ?_)
  obtain ⟨rfl, rfl, T2⟩ := hp
  show ab_T _ _ _ _ 0 0 5 _ (va_rf _ :: []) _ _
  refine ab_astore_n (pc2 := 6) (lo2 := [some (va_rf _), some (.int _), some (va_rf _)]) dX10_undo_5 rfl (by decide) rfl ?_
  refine ab_aload_n (x := _) (pc2 := 7) dX10_undo_6 rfl rfl ?_
  refine ab_nul (tgt := 69) (pc2 := 10) dX10_undo_7 (by decide) rfl hf (fun hq3 hf => ?_) (fun q3 hq3 hf => ?_)
  · cases Option.some.inj hf
    exact ab_retV dX10_undo_69 rfl (Nat.le_refl _) (Nat.le_refl _) ⟨rfl, rfl⟩
  · refine ab_aload_n (x := _) (pc2 := 11) dX10_undo_10 rfl rfl ?_
    refine ab_aload_n (x := _) (pc2 := 12) dX10_undo_11 rfl rfl ?_
    refine ab_getI (pc2 := 15) rfl ht0 fa_X10_38 (by decide) dX10_undo_12 rfl ?_
    refine ab_aload_n (x := _) (pc2 := 16) dX10_undo_15 rfl rfl ?_
    refine ab_getR (pc2 := 19) rfl ht0 fa_X10_17 dX10_undo_16 rfl (fun T4 => ?_)
    refine ab_iload_n (pc2 := 20) dX10_undo_19 rfl rfl ?_
    obtain ⟨w5, ew5, hf⟩ := ab_bind hf
    refine ab_callSN (pc2 := 23) (st := [_, _]) (m_X11_at (d := (d + 0)) T4 ew5) mf_X11_at tn_X10_120 tw_23 dX10_undo_20 rfl (by omega) (Nat.le_refl _) (Nat.le_refl _) rfl (Nat.le_of_ble_eq_true rfl) (fun v u hp => ?_)
    obtain ⟨rfl, rfl⟩ := hp
    show ab_T _ _ _ _ 0 0 23 _ (.int _ :: [_, _]) _ _
    refine ab_iconst (pc2 := 24) (v := (-1)) dX10_undo_23 rfl ab_k_iconst_m1 ?_
    refine ab_ixor (pc2 := 25) dX10_undo_24 rfl ?_
    refine ab_iand (pc2 := 26) dX10_undo_25 rfl ?_
    refine ab_aload_n (x := _) (pc2 := 27) dX10_undo_26 rfl rfl ?_
    refine ab_getR (pc2 := 30) rfl ht0 fa_X10_21 dX10_undo_27 rfl (fun T6 => ?_)
    refine ab_iload_n (pc2 := 31) dX10_undo_30 rfl rfl ?_
    obtain ⟨w7, ew7, hf⟩ := ab_bind hf
    refine ab_callSN (pc2 := 34) (st := [_, _]) (m_X11_at (d := (d + 0)) T6 ew7) mf_X11_at tn_X10_120 tw_23 dX10_undo_31 rfl (by omega) (Nat.le_refl _) (Nat.le_refl _) rfl (Nat.le_of_ble_eq_true rfl) (fun v u hp => ?_)
    obtain ⟨rfl, rfl⟩ := hp
    show ab_T _ _ _ _ 0 0 34 _ (.int _ :: [_, _]) _ _
    refine ab_ior (pc2 := 35) dX10_undo_34 rfl ?_
    have hf := ab_let_e hf
    refine ab_putI (pc2 := 38) rfl ht0 fa_X10_38 (Or.inl rfl) (fun z => by cases z) dX10_undo_35 rfl ?_
    refine ab_aload_n (x := _) (pc2 := 39) dX10_undo_38 rfl rfl ?_
    refine ab_sipush (pc2 := 42) (v := 9999) dX10_undo_39 rfl ab_k_sipush_9999 ?_
    refine ab_aload_n (x := _) (pc2 := 43) dX10_undo_42 rfl rfl ?_
    refine ab_getI (pc2 := 46) rfl ht0 fa_X10_41 (by decide) dX10_undo_43 rfl ?_
    refine ab_aload_n (x := _) (pc2 := 47) dX10_undo_46 rfl rfl ?_
    refine ab_getI (pc2 := 50) hq3 (T2 q3 hq3) fa_X10_130 (by decide) dX10_undo_47 rfl ?_
    refine ab_iadd (pc2 := 51) dX10_undo_50 rfl ?_
    refine ab_mmin (pc2 := 54) tw_176 tw_min_s tw_math tw_min_c (by omega) (Nat.le_of_ble_eq_true rfl) (Nat.le_refl _) (Nat.le_refl _) dX10_undo_51 rfl ?_
    have hf := ab_let_e hf
    refine ab_putI (pc2 := 57) rfl ht0 fa_X10_41 (Or.inl rfl) (fun z => by cases z) dX10_undo_54 rfl ?_
    refine ab_aload_n (x := _) (pc2 := 58) dX10_undo_57 rfl rfl ?_
    refine ab_dup (pc2 := 59) dX10_undo_58 rfl (ab_rf1 _) ?_
    refine ab_getI (pc2 := 62) rfl ht0 fa_X10_50 (by decide) dX10_undo_59 rfl ?_
    refine ab_iconst (pc2 := 63) (v := 1) dX10_undo_62 rfl ab_k_iconst_1 ?_
    refine ab_iload_n (pc2 := 64) dX10_undo_63 rfl rfl ?_
    refine ab_ishl (pc2 := 65) dX10_undo_64 rfl ?_
    refine ab_ior (pc2 := 66) dX10_undo_65 rfl ?_
    have hf := ab_let_e hf
    refine ab_putI (pc2 := 69) rfl ht0 fa_X10_50 (Or.inl rfl) (fun z => by cases z) dX10_undo_66 rfl ?_
    cases Option.some.inj hf
    exact ab_retV dX10_undo_69 rfl (Nat.le_refl _) (Nat.le_refl _) ⟨rfl, rfl⟩
set_option maxHeartbeats 4000000 in
set_option maxRecDepth 100000 in
theorem m_X10_undo {d : Nat} {t0 : Nat} {i1 : Int32} {h : ab_HP} {r : ab_HP} (ht0 : (ab_shp t0).1 = 2) (hf : f_X10_undo t0 i1 h = some r) : ab_MET mX10_undo (d + 1) 0 0 [va_rf (some t0), .int i1] h (ab_Pv r) := ab_met (by decide +kernel) (by decide +kernel) (Nat.le_of_ble_eq_true rfl) rfl (x_X10_undo ht0 hf)
set_option maxHeartbeats 4000000 in
set_option maxRecDepth 100000 in
theorem x_X10_letFall_l25 {d : Nat} {k4 : Int32 → Int32 → ab_HP → Option ab_HP} {t0 : Nat} {r : ab_HP} (ht0 : (ab_shp t0).1 = 2) (hk4 : ∀ (i1 : Int32) (i2 : Int32) (h : ab_HP), k4 i1 i2 h = some r → ab_T mX10_letFall (d + 2) 0 0 0 0 4 [some (va_rf (some t0)), some (.int i1), some (.int i2), none, none] [] h (ab_Pv r)) : ∀ (n : Nat) (i1 : Int32) (i2 : Int32) (i3 : Int32) (h : ab_HP), f_X10_letFall_l25 k4 t0 n i1 i2 i3 h = some r → ab_T mX10_letFall (d + 2) 0 0 0 0 25 [some (va_rf (some t0)), some (.int i1), some (.int i2), some (.int i3), none] [] h (ab_Pv r) := by
  intro n
  induction n with
  | zero =>
    intro i1 i2 i3 h hf
    rw [f_X10_letFall_l25] at hf
    cases hf
  | succ n ih =>
    intro i1 i2 i3 h hf
    rw [f_X10_letFall_l25] at hf
    refine ab_iload_n (pc2 := 26) dX10_letFall_25 rfl rfl ?_
    refine ab_if_lt (tgt := 96) (pc2 := 29) dX10_letFall_26 (by decide) rfl hf (fun c3 hf => ?_) (fun c3 hf => ?_)
    · refine ab_iinc (pc2 := 99) (v := _ + 1) (lo2 := [some (va_rf _), some (.int _), some (.int _), some (.int _), none]) dX10_letFall_96 rfl rfl rfl (by decide) rfl ?_
      refine ab_goto (tgt := 4) dX10_letFall_99 (by decide) ?_
      exact ab_weak (hk4 _ _ _ hf) (ab_leS (ab_leS (ab_leS (ab_leN (ab_leN ab_le0)))))
    · refine ab_aload_n (x := _) (pc2 := 30) dX10_letFall_29 rfl rfl ?_
      refine ab_iload_n (pc2 := 31) dX10_letFall_30 rfl rfl ?_
      obtain ⟨w4, ew4, hf⟩ := ab_bind hf
      refine ab_callV (pc2 := 34) (st := []) rfl ht0 (by decide) (m_X10_deedAt (d := (d + 1)) ht0 ew4) mf_X10_deedAt tw_164 tw_163 ts_X10_deedAt (Or.inl (by decide +kernel)) dX10_letFall_31 rfl (by omega) (Nat.le_refl _) (Nat.le_refl _) rfl (Nat.le_of_ble_eq_true rfl) (fun v u hp => ?_)
      obtain ⟨rfl, rfl, T5⟩ := hp
      show ab_T _ _ _ _ 0 0 34 _ (va_rf _ :: []) _ _
      refine ab_astore (pc2 := 36) (lo2 := [some (va_rf _), some (.int _), some (.int _), some (.int _), some (va_rf _)]) dX10_letFall_34 rfl (by decide) rfl ?_
      refine ab_aload (x := _) (pc2 := 38) dX10_letFall_36 rfl rfl ?_
      refine ab_nul (tgt := 90) (pc2 := 41) dX10_letFall_38 (by decide) rfl hf (fun hq6 hf => ?_) (fun q6 hq6 hf => ?_)
      · refine ab_iinc (pc2 := 93) (v := _ + (-1)) (lo2 := [some (va_rf _), some (.int _), some (.int _), some (.int _), some (va_rf _)]) dX10_letFall_90 rfl rfl rfl (by decide) rfl ?_
        refine ab_goto (tgt := 25) dX10_letFall_93 (by decide) ?_
        exact ab_weak (ih _ _ _ _ hf) (ab_leS (ab_leS (ab_leS (ab_leS (ab_leN ab_le0)))))
      · refine ab_aload_n (x := _) (pc2 := 42) dX10_letFall_41 rfl rfl ?_
        refine ab_getI (pc2 := 45) rfl ht0 fa_X10_56 (by decide) dX10_letFall_42 rfl ?_
        refine ab_aload_n (x := _) (pc2 := 46) dX10_letFall_45 rfl rfl ?_
        refine ab_getI (pc2 := 49) rfl ht0 fa_X10_50 (by decide) dX10_letFall_46 rfl ?_
        refine ab_iconst (pc2 := 50) (v := (-1)) dX10_letFall_49 rfl ab_k_iconst_m1 ?_
        refine ab_ixor (pc2 := 51) dX10_letFall_50 rfl ?_
        refine ab_iand (pc2 := 52) dX10_letFall_51 rfl ?_
        refine ab_iload_n (pc2 := 53) dX10_letFall_52 rfl rfl ?_
        obtain ⟨w7, ew7, hf⟩ := ab_bind hf
        refine ab_callS (pc2 := 56) (st := []) (m_X10_has (d := (d + 1)) ew7) mf_X10_has tw_170 tw_171 dX10_letFall_53 rfl (by omega) (Nat.le_refl _) (Nat.le_refl _) rfl (Nat.le_of_ble_eq_true rfl) (fun v u hp => ?_)
        obtain ⟨rfl, rfl, z8⟩ := hp
        show ab_T _ _ _ _ 0 0 56 _ (.int _ :: []) _ _
        refine ab_if_eq (tgt := 90) (pc2 := 59) dX10_letFall_56 (by decide) rfl hf (fun c9 hf => ?_) (fun c9 hf => ?_)
        · refine ab_iinc (pc2 := 93) (v := _ + (-1)) (lo2 := [some (va_rf _), some (.int _), some (.int _), some (.int _), some (va_rf _)]) dX10_letFall_90 rfl rfl rfl (by decide) rfl ?_
          refine ab_goto (tgt := 25) dX10_letFall_93 (by decide) ?_
          exact ab_weak (ih _ _ _ _ hf) (ab_leS (ab_leS (ab_leS (ab_leS (ab_leN ab_le0)))))
        · refine ab_aload (x := _) (pc2 := 61) dX10_letFall_59 rfl rfl ?_
          refine ab_aload_n (x := _) (pc2 := 62) dX10_letFall_61 rfl rfl ?_
          refine ab_getI (pc2 := 65) rfl ht0 fa_X10_38 (by decide) dX10_letFall_62 rfl ?_
          obtain ⟨w10, ew10, hf⟩ := ab_bind hf
          refine ab_callV (pc2 := 68) (st := []) hq6 (T5 q6 hq6) (by decide) (m_X1_hasGround (d := (d + 1)) (T5 q6 hq6) ew10) mf_X1_hasGround tw_177 tw_146 ts_X1_hasGround (Or.inr tw_147) dX10_letFall_65 rfl (by omega) (Nat.le_refl _) (Nat.le_refl _) rfl (Nat.le_of_ble_eq_true rfl) (fun v u hp => ?_)
          obtain ⟨rfl, rfl, z11⟩ := hp
          show ab_T _ _ _ _ 0 0 68 _ (.int _ :: []) _ _
          refine ab_if_ne (tgt := 90) (pc2 := 71) dX10_letFall_68 (by decide) rfl hf (fun c12 hf => ?_) (fun c12 hf => ?_)
          · refine ab_iinc (pc2 := 93) (v := _ + (-1)) (lo2 := [some (va_rf _), some (.int _), some (.int _), some (.int _), some (va_rf _)]) dX10_letFall_90 rfl rfl rfl (by decide) rfl ?_
            refine ab_goto (tgt := 25) dX10_letFall_93 (by decide) ?_
            exact ab_weak (ih _ _ _ _ hf) (ab_leS (ab_leS (ab_leS (ab_leS (ab_leN ab_le0)))))
          · refine ab_aload_n (x := _) (pc2 := 72) dX10_letFall_71 rfl rfl ?_
            refine ab_iload_n (pc2 := 73) dX10_letFall_72 rfl rfl ?_
            obtain ⟨w13, ew13, hf⟩ := ab_bind hf
            refine ab_callV (pc2 := 76) (st := []) rfl ht0 (by decide) (m_X10_undo (d := (d + 0)) ht0 ew13) mf_X10_undo tw_179 tw_178 ts_X10_undo (Or.inl (by decide +kernel)) dX10_letFall_73 rfl (by omega) (Nat.le_refl _) (Nat.le_refl _) rfl (Nat.le_of_ble_eq_true rfl) (fun v u hp => ?_)
            obtain ⟨rfl, rfl⟩ := hp
            show ab_T _ _ _ _ 0 0 76 _ ([]) _ _
            refine ab_aload_n (x := _) (pc2 := 77) dX10_letFall_76 rfl rfl ?_
            refine ab_dup (pc2 := 78) dX10_letFall_77 rfl (ab_rf1 _) ?_
            refine ab_getI (pc2 := 81) rfl ht0 fa_X10_59 (by decide) dX10_letFall_78 rfl ?_
            refine ab_iconst (pc2 := 82) (v := 1) dX10_letFall_81 rfl ab_k_iconst_1 ?_
            refine ab_iload_n (pc2 := 83) dX10_letFall_82 rfl rfl ?_
            refine ab_ishl (pc2 := 84) dX10_letFall_83 rfl ?_
            refine ab_ior (pc2 := 85) dX10_letFall_84 rfl ?_
            have hf := ab_let_e hf
            refine ab_putI (pc2 := 88) rfl ht0 fa_X10_59 (Or.inl rfl) (fun z => by cases z) dX10_letFall_85 rfl ?_
            refine ab_iconst (pc2 := 89) (v := 1) dX10_letFall_88 rfl ab_k_iconst_1 ?_
            refine ab_istore_n (pc2 := 90) (lo2 := [some (va_rf _), some (.int _), some (.int _), some (.int _), some (va_rf _)]) dX10_letFall_89 rfl (by decide) rfl ?_
            refine ab_iinc (pc2 := 93) (v := _ + (-1)) (lo2 := [some (va_rf _), some (.int _), some (.int _), some (.int _), some (va_rf _)]) dX10_letFall_90 rfl rfl rfl (by decide) rfl ?_
            refine ab_goto (tgt := 25) dX10_letFall_93 (by decide) ?_
            exact ab_weak (ih _ _ _ _ hf) (ab_leS (ab_leS (ab_leS (ab_leS (ab_leN ab_le0)))))
set_option maxHeartbeats 4000000 in
set_option maxRecDepth 100000 in
theorem x_X10_letFall_l4 {d : Nat} {t0 : Nat} {r : ab_HP} (ht0 : (ab_shp t0).1 = 2) : ∀ (n : Nat) (i1 : Int32) (i2 : Int32) (h : ab_HP), f_X10_letFall_l4 t0 n i1 i2 h = some r → ab_T mX10_letFall (d + 2) 0 0 0 0 4 [some (va_rf (some t0)), some (.int i1), some (.int i2), none, none] [] h (ab_Pv r) := by
  intro n
  induction n with
  | zero =>
    intro i1 i2 h hf
    rw [f_X10_letFall_l4] at hf
    cases hf
  | succ n ih =>
    intro i1 i2 h hf
    rw [f_X10_letFall_l4] at hf
    refine ab_iload_n (pc2 := 5) dX10_letFall_4 rfl rfl ?_
    refine ab_aload_n (x := _) (pc2 := 6) dX10_letFall_5 rfl rfl ?_
    refine ab_getI (pc2 := 9) rfl ht0 fa_X10_35 (by decide) dX10_letFall_6 rfl ?_
    refine ab_icmp_gt (tgt := 102) (pc2 := 12) dX10_letFall_9 (by decide) rfl hf (fun c1 hf => ?_) (fun c1 hf => ?_)
    · cases Option.some.inj hf
      exact ab_retV dX10_letFall_102 rfl (Nat.le_refl _) (Nat.le_refl _) ⟨rfl, rfl⟩
    · refine ab_iload_n (pc2 := 13) dX10_letFall_12 rfl rfl ?_
      refine ab_if_eq (tgt := 102) (pc2 := 16) dX10_letFall_13 (by decide) rfl hf (fun c2 hf => ?_) (fun c2 hf => ?_)
      · cases Option.some.inj hf
        exact ab_retV dX10_letFall_102 rfl (Nat.le_refl _) (Nat.le_refl _) ⟨rfl, rfl⟩
      · refine ab_iconst (pc2 := 17) (v := 0) dX10_letFall_16 rfl ab_k_iconst_0 ?_
        refine ab_istore_n (pc2 := 18) (lo2 := [some (va_rf _), some (.int _), some (.int _), none, none]) dX10_letFall_17 rfl (by decide) rfl ?_
        refine ab_aload_n (x := _) (pc2 := 19) dX10_letFall_18 rfl rfl ?_
        refine ab_getI (pc2 := 22) rfl ht0 fa_X10_35 (by decide) dX10_letFall_19 rfl ?_
        refine ab_iconst (pc2 := 23) (v := 1) dX10_letFall_22 rfl ab_k_iconst_1 ?_
        refine ab_isub (pc2 := 24) dX10_letFall_23 rfl ?_
        refine ab_istore_n (pc2 := 25) (lo2 := [some (va_rf _), some (.int _), some (.int _), some (.int _), none]) dX10_letFall_24 rfl (by decide) rfl ?_
        exact ab_weak (x_X10_letFall_l25 ht0 ih _ _ _ _ _ hf) (ab_leS (ab_leS (ab_leS (ab_leS (ab_leN ab_le0)))))
set_option maxHeartbeats 4000000 in
set_option maxRecDepth 100000 in
theorem x_X10_letFall {d : Nat} {t0 : Nat} {h : ab_HP} {r : ab_HP} (ht0 : (ab_shp t0).1 = 2) (hf : f_X10_letFall t0 h = some r) : ab_T mX10_letFall (d + 2) 0 0 0 0 0 [some (va_rf (some t0)), none, none, none, none] [] h (ab_Pv r) := by
  unfold f_X10_letFall at hf
  refine ab_iconst (pc2 := 1) (v := 1) dX10_letFall_0 rfl ab_k_iconst_1 ?_
  refine ab_istore_n (pc2 := 2) (lo2 := [some (va_rf _), some (.int _), none, none, none]) dX10_letFall_1 rfl (by decide) rfl ?_
  refine ab_iconst (pc2 := 3) (v := 0) dX10_letFall_2 rfl ab_k_iconst_0 ?_
  refine ab_istore_n (pc2 := 4) (lo2 := [some (va_rf _), some (.int _), some (.int _), none, none]) dX10_letFall_3 rfl (by decide) rfl ?_
  exact ab_weak (x_X10_letFall_l4 ht0 _ _ _ _ hf) (ab_leS (ab_leS (ab_leS (ab_leN (ab_leN ab_le0)))))
set_option maxHeartbeats 4000000 in
set_option maxRecDepth 100000 in
theorem m_X10_letFall {d : Nat} {t0 : Nat} {h : ab_HP} {r : ab_HP} (ht0 : (ab_shp t0).1 = 2) (hf : f_X10_letFall t0 h = some r) : ab_MET mX10_letFall (d + 2) 0 0 [va_rf (some t0)] h (ab_Pv r) := ab_met (by decide +kernel) (by decide +kernel) (Nat.le_of_ble_eq_true rfl) rfl (x_X10_letFall ht0 hf)
set_option maxHeartbeats 4000000 in
set_option maxRecDepth 100000 in
theorem x_X10_oddYear_l7 {d : Nat} {t0 : Nat} {r : ab_HP} (ht0 : (ab_shp t0).1 = 2) : ∀ (n : Nat) (i1 : Int32) (h : ab_HP), f_X10_oddYear_l7 t0 n i1 h = some r → ab_T mX10_oddYear (d + 3) 0 0 0 0 7 [some (va_rf (some t0)), some (.int i1)] [] h (ab_Pv r) := by
  intro n
  induction n with
  | zero =>
    intro i1 h hf
    rw [f_X10_oddYear_l7] at hf
    cases hf
  | succ n ih =>
    intro i1 h hf
    rw [f_X10_oddYear_l7] at hf
    refine ab_iload_n (pc2 := 8) dX10_oddYear_7 rfl rfl ?_
    refine ab_if_lt (tgt := 59) (pc2 := 11) dX10_oddYear_8 (by decide) rfl hf (fun c1 hf => ?_) (fun c1 hf => ?_)
    · cases Option.some.inj hf
      exact ab_retV dX10_oddYear_59 rfl (Nat.le_refl _) (Nat.le_refl _) ⟨rfl, rfl⟩
    · refine ab_aload_n (x := _) (pc2 := 12) dX10_oddYear_11 rfl rfl ?_
      refine ab_getI (pc2 := 15) rfl ht0 fa_X10_47 (by decide) dX10_oddYear_12 rfl ?_
      refine ab_aload_n (x := _) (pc2 := 16) dX10_oddYear_15 rfl rfl ?_
      refine ab_getI (pc2 := 19) rfl ht0 fa_X10_56 (by decide) dX10_oddYear_16 rfl ?_
      refine ab_iconst (pc2 := 20) (v := (-1)) dX10_oddYear_19 rfl ab_k_iconst_m1 ?_
      refine ab_ixor (pc2 := 21) dX10_oddYear_20 rfl ?_
      refine ab_iand (pc2 := 22) dX10_oddYear_21 rfl ?_
      refine ab_iload_n (pc2 := 23) dX10_oddYear_22 rfl rfl ?_
      obtain ⟨w2, ew2, hf⟩ := ab_bind hf
      refine ab_callS (pc2 := 26) (st := []) (m_X10_has (d := (d + 2)) ew2) mf_X10_has tw_170 tw_171 dX10_oddYear_23 rfl (by omega) (Nat.le_refl _) (Nat.le_refl _) rfl (Nat.le_of_ble_eq_true rfl) (fun v u hp => ?_)
      obtain ⟨rfl, rfl, z3⟩ := hp
      show ab_T _ _ _ _ 0 0 26 _ (.int _ :: []) _ _
      refine ab_if_eq (tgt := 53) (pc2 := 29) dX10_oddYear_26 (by decide) rfl hf (fun c4 hf => ?_) (fun c4 hf => ?_)
      · refine ab_iinc (pc2 := 56) (v := _ + (-1)) (lo2 := [some (va_rf _), some (.int _)]) dX10_oddYear_53 rfl rfl rfl (by decide) rfl ?_
        refine ab_goto (tgt := 7) dX10_oddYear_56 (by decide) ?_
        exact ab_weak (ih _ _ hf) (ab_leS (ab_leS ab_le0))
      · refine ab_aload_n (x := _) (pc2 := 30) dX10_oddYear_29 rfl rfl ?_
        refine ab_iload_n (pc2 := 31) dX10_oddYear_30 rfl rfl ?_
        obtain ⟨w5, ew5, hf⟩ := ab_bind hf
        refine ab_callV (pc2 := 34) (st := []) rfl ht0 (by decide) (m_X10_stays (d := (d + 1)) ht0 ew5) mf_X10_stays tw_181 tw_180 ts_X10_stays (Or.inl (by decide +kernel)) dX10_oddYear_31 rfl (by omega) (Nat.le_refl _) (Nat.le_refl _) rfl (Nat.le_of_ble_eq_true rfl) (fun v u hp => ?_)
        obtain ⟨rfl, rfl, z6⟩ := hp
        show ab_T _ _ _ _ 0 0 34 _ (.int _ :: []) _ _
        refine ab_if_ne (tgt := 53) (pc2 := 37) dX10_oddYear_34 (by decide) rfl hf (fun c7 hf => ?_) (fun c7 hf => ?_)
        · refine ab_iinc (pc2 := 56) (v := _ + (-1)) (lo2 := [some (va_rf _), some (.int _)]) dX10_oddYear_53 rfl rfl rfl (by decide) rfl ?_
          refine ab_goto (tgt := 7) dX10_oddYear_56 (by decide) ?_
          exact ab_weak (ih _ _ hf) (ab_leS (ab_leS ab_le0))
        · refine ab_aload_n (x := _) (pc2 := 38) dX10_oddYear_37 rfl rfl ?_
          refine ab_iload_n (pc2 := 39) dX10_oddYear_38 rfl rfl ?_
          obtain ⟨w8, ew8, hf⟩ := ab_bind hf
          refine ab_callV (pc2 := 42) (st := []) rfl ht0 (by decide) (m_X10_undo (d := (d + 1)) ht0 ew8) mf_X10_undo tw_179 tw_178 ts_X10_undo (Or.inl (by decide +kernel)) dX10_oddYear_39 rfl (by omega) (Nat.le_refl _) (Nat.le_refl _) rfl (Nat.le_of_ble_eq_true rfl) (fun v u hp => ?_)
          obtain ⟨rfl, rfl⟩ := hp
          show ab_T _ _ _ _ 0 0 42 _ ([]) _ _
          refine ab_aload_n (x := _) (pc2 := 43) dX10_oddYear_42 rfl rfl ?_
          refine ab_getI (pc2 := 46) rfl ht0 fa_X10_34 (by decide) dX10_oddYear_43 rfl ?_
          refine ab_if_ne (tgt := 53) (pc2 := 49) dX10_oddYear_46 (by decide) rfl hf (fun c9 hf => ?_) (fun c9 hf => ?_)
          · refine ab_iinc (pc2 := 56) (v := _ + (-1)) (lo2 := [some (va_rf _), some (.int _)]) dX10_oddYear_53 rfl rfl rfl (by decide) rfl ?_
            refine ab_goto (tgt := 7) dX10_oddYear_56 (by decide) ?_
            exact ab_weak (ih _ _ hf) (ab_leS (ab_leS ab_le0))
          · refine ab_aload_n (x := _) (pc2 := 50) dX10_oddYear_49 rfl rfl ?_
            obtain ⟨w10, ew10, hf⟩ := ab_bind hf
            refine ab_callV (pc2 := 53) (st := []) rfl ht0 (by decide) (m_X10_letFall (d := (d + 0)) ht0 ew10) mf_X10_letFall tw_183 tw_182 ts_X10_letFall (Or.inl (by decide +kernel)) dX10_oddYear_50 rfl (by omega) (Nat.le_refl _) (Nat.le_refl _) rfl (Nat.le_of_ble_eq_true rfl) (fun v u hp => ?_)
            obtain ⟨rfl, rfl⟩ := hp
            show ab_T _ _ _ _ 0 0 53 _ ([]) _ _
            refine ab_iinc (pc2 := 56) (v := _ + (-1)) (lo2 := [some (va_rf _), some (.int _)]) dX10_oddYear_53 rfl rfl rfl (by decide) rfl ?_
            refine ab_goto (tgt := 7) dX10_oddYear_56 (by decide) ?_
            exact ab_weak (ih _ _ hf) (ab_leS (ab_leS ab_le0))
set_option maxHeartbeats 4000000 in
set_option maxRecDepth 100000 in
theorem x_X10_oddYear {d : Nat} {t0 : Nat} {h : ab_HP} {r : ab_HP} (ht0 : (ab_shp t0).1 = 2) (hf : f_X10_oddYear t0 h = some r) : ab_T mX10_oddYear (d + 3) 0 0 0 0 0 [some (va_rf (some t0)), none] [] h (ab_Pv r) := by
  unfold f_X10_oddYear at hf
  refine ab_aload_n (x := _) (pc2 := 1) dX10_oddYear_0 rfl rfl ?_
  refine ab_getI (pc2 := 4) rfl ht0 fa_X10_35 (by decide) dX10_oddYear_1 rfl ?_
  refine ab_iconst (pc2 := 5) (v := 1) dX10_oddYear_4 rfl ab_k_iconst_1 ?_
  refine ab_isub (pc2 := 6) dX10_oddYear_5 rfl ?_
  refine ab_istore_n (pc2 := 7) (lo2 := [some (va_rf _), some (.int _)]) dX10_oddYear_6 rfl (by decide) rfl ?_
  exact ab_weak (x_X10_oddYear_l7 ht0 _ _ _ hf) (ab_leS (ab_leS ab_le0))
set_option maxHeartbeats 4000000 in
set_option maxRecDepth 100000 in
theorem m_X10_oddYear {d : Nat} {t0 : Nat} {h : ab_HP} {r : ab_HP} (ht0 : (ab_shp t0).1 = 2) (hf : f_X10_oddYear t0 h = some r) : ab_MET mX10_oddYear (d + 3) 0 0 [va_rf (some t0)] h (ab_Pv r) := ab_met (by decide +kernel) (by decide +kernel) (Nat.le_of_ble_eq_true rfl) rfl (x_X10_oddYear ht0 hf)
set_option maxHeartbeats 4000000 in
set_option maxRecDepth 100000 in
theorem x_X10_play_b25 {d : Nat} {t0 : Nat} {i1 : Int32} {h : ab_HP} {r : ab_HP} (ht0 : (ab_shp t0).1 = 2) (hf : f_X10_play_b25 t0 i1 h = some r) : ab_T mX10_play (d + 4) 0 0 0 0 25 [some (va_rf (some t0)), some (.int i1)] [] h (ab_Pv r) := by
  unfold f_X10_play_b25 at hf
  refine ab_aload_n (x := _) (pc2 := 26) dX10_play_25 rfl rfl ?_
  refine ab_iload_n (pc2 := 27) dX10_play_26 rfl rfl ?_
  obtain ⟨w8, ew8, hf⟩ := ab_bind hf
  refine ab_callV (pc2 := 30) (st := []) rfl ht0 (by decide) (m_X10_evenYear (d := (d + 0)) ht0 ew8) mf_X10_evenYear tw_187 tw_186 ts_X10_evenYear (Or.inl (by decide +kernel)) dX10_play_27 rfl (by omega) (Nat.le_refl _) (Nat.le_refl _) rfl (Nat.le_of_ble_eq_true rfl) (fun v u hp => ?_)
  obtain ⟨rfl, rfl⟩ := hp
  show ab_T _ _ _ _ 0 0 30 _ ([]) _ _
  refine ab_aload_n (x := _) (pc2 := 31) dX10_play_30 rfl rfl ?_
  obtain ⟨w9, ew9, hf⟩ := ab_bind hf
  refine ab_callV (pc2 := 34) (st := []) rfl ht0 (by decide) (m_X10_oddYear (d := (d + 0)) ht0 ew9) mf_X10_oddYear tw_189 tw_188 ts_X10_oddYear (Or.inl (by decide +kernel)) dX10_play_31 rfl (by omega) (Nat.le_refl _) (Nat.le_refl _) rfl (Nat.le_of_ble_eq_true rfl) (fun v u hp => ?_)
  obtain ⟨rfl, rfl⟩ := hp
  show ab_T _ _ _ _ 0 0 34 _ ([]) _ _
  cases Option.some.inj hf
  exact ab_retV dX10_play_34 rfl (Nat.le_refl _) (Nat.le_refl _) ⟨rfl, rfl⟩
set_option maxHeartbeats 4000000 in
set_option maxRecDepth 100000 in
theorem x_X10_play {d : Nat} {t0 : Nat} {i1 : Int32} {h : ab_HP} {r : ab_HP} (ht0 : (ab_shp t0).1 = 2) (hf : f_X10_play t0 i1 h = some r) : ab_T mX10_play (d + 4) 0 0 0 0 0 [some (va_rf (some t0)), some (.int i1)] [] h (ab_Pv r) := by
  unfold f_X10_play at hf
  refine ab_aload_n (x := _) (pc2 := 1) dX10_play_0 rfl rfl ?_
  refine ab_getR (pc2 := 4) rfl ht0 fa_X10_24 dX10_play_1 rfl (fun T1 => ?_)
  refine ab_nul (tgt := 25) (pc2 := 7) dX10_play_4 (by decide) rfl hf (fun hq2 hf => ?_) (fun q2 hq2 hf => ?_)
  · exact ab_weak (x_X10_play_b25 ht0 hf) (ab_leS (ab_leS ab_le0))
  · refine ab_aload_n (x := _) (pc2 := 8) dX10_play_7 rfl rfl ?_
    refine ab_aload_n (x := _) (pc2 := 9) dX10_play_8 rfl rfl ?_
    refine ab_getR (pc2 := 12) rfl ht0 fa_X10_24 dX10_play_9 rfl (fun T3 => ?_)
    obtain ⟨q4, hq4, hf⟩ := ab_bind hf
    refine ab_getI (pc2 := 15) hq4 (T3 q4 hq4) fa_X10_62 (by decide) dX10_play_12 rfl ?_
    refine ab_aload_n (x := _) (pc2 := 16) dX10_play_15 rfl rfl ?_
    refine ab_getR (pc2 := 19) rfl ht0 fa_X10_24 dX10_play_16 rfl (fun T5 => ?_)
    obtain ⟨q6, hq6, hf⟩ := ab_bind hf
    refine ab_getI (pc2 := 22) hq6 (T5 q6 hq6) fa_X10_63 (by decide) dX10_play_19 rfl ?_
    obtain ⟨w7, ew7, hf⟩ := ab_bind hf
    refine ab_callV (pc2 := 25) (st := []) rfl ht0 (by decide) (m_X10_begin (d := (d + 3)) ht0 ew7) mf_X10_begin tw_185 tw_184 ts_X10_begin (Or.inl (by decide +kernel)) dX10_play_22 rfl (by omega) (Nat.le_refl _) (Nat.le_refl _) rfl (Nat.le_of_ble_eq_true rfl) (fun v u hp => ?_)
    obtain ⟨rfl, rfl⟩ := hp
    show ab_T _ _ _ _ 0 0 25 _ ([]) _ _
    exact ab_weak (x_X10_play_b25 ht0 hf) (ab_leS (ab_leS ab_le0))
set_option maxHeartbeats 4000000 in
set_option maxRecDepth 100000 in
theorem m_X10_play {d : Nat} {t0 : Nat} {i1 : Int32} {h : ab_HP} {r : ab_HP} (ht0 : (ab_shp t0).1 = 2) (hf : f_X10_play t0 i1 h = some r) : ab_MET mX10_play (d + 4) 0 0 [va_rf (some t0), .int i1] h (ab_Pv r) := ab_met (by decide +kernel) (by decide +kernel) (Nat.le_of_ble_eq_true rfl) rfl (x_X10_play ht0 hf)
set_option maxHeartbeats 4000000 in
set_option maxRecDepth 100000 in
theorem x_X10_standing {d : Nat} {t0 : Nat} {h : ab_HP} {r : Int32} (ht0 : (ab_shp t0).1 = 2) (hf : f_X10_standing t0 h = some r) : ab_T mX10_standing (d + 0) 0 0 0 0 0 [some (va_rf (some t0))] [] h (ab_Pi r h) := by
  unfold f_X10_standing at hf
  refine ab_aload_n (x := _) (pc2 := 1) dX10_standing_0 rfl rfl ?_
  refine ab_getI (pc2 := 4) rfl ht0 fa_X10_47 (by decide) dX10_standing_1 rfl ?_
  refine ab_aload_n (x := _) (pc2 := 5) dX10_standing_4 rfl rfl ?_
  refine ab_getI (pc2 := 8) rfl ht0 fa_X10_50 (by decide) dX10_standing_5 rfl ?_
  refine ab_iconst (pc2 := 9) (v := (-1)) dX10_standing_8 rfl ab_k_iconst_m1 ?_
  refine ab_ixor (pc2 := 10) dX10_standing_9 rfl ?_
  refine ab_iand (pc2 := 11) dX10_standing_10 rfl ?_
  cases Option.some.inj hf
  exact ab_retI dX10_standing_11 (Or.inl rfl) (Nat.le_refl _) (Nat.le_refl _) ⟨rfl, rfl⟩
set_option maxHeartbeats 4000000 in
set_option maxRecDepth 100000 in
theorem m_X10_standing {d : Nat} {t0 : Nat} {h : ab_HP} {r : Int32} (ht0 : (ab_shp t0).1 = 2) (hf : f_X10_standing t0 h = some r) : ab_MET mX10_standing (d + 0) 0 0 [va_rf (some t0)] h (ab_Pi r h) := ab_met (by decide +kernel) (by decide +kernel) (Nat.le_of_ble_eq_true rfl) rfl (x_X10_standing ht0 hf)
set_option maxHeartbeats 4000000 in
set_option maxRecDepth 100000 in
theorem x_X10_fate {d : Nat} {t0 : Nat} {i1 : Int32} {h : ab_HP} {r : Int32} (ht0 : (ab_shp t0).1 = 2) (hf : f_X10_fate t0 i1 h = some r) : ab_T mX10_fate (d + 1) 0 0 0 0 0 [some (va_rf (some t0)), some (.int i1)] [] h (ab_Pi r h) := by
  unfold f_X10_fate at hf
  refine ab_aload_n (x := _) (pc2 := 1) dX10_fate_0 rfl rfl ?_
  refine ab_getI (pc2 := 4) rfl ht0 fa_X10_47 (by decide) dX10_fate_1 rfl ?_
  refine ab_iload_n (pc2 := 5) dX10_fate_4 rfl rfl ?_
  obtain ⟨w1, ew1, hf⟩ := ab_bind hf
  refine ab_callS (pc2 := 8) (st := []) (m_X10_has (d := (d + 0)) ew1) mf_X10_has tw_170 tw_171 dX10_fate_5 rfl (by omega) (Nat.le_refl _) (Nat.le_refl _) rfl (Nat.le_of_ble_eq_true rfl) (fun v u hp => ?_)
  obtain ⟨rfl, rfl, z2⟩ := hp
  show ab_T _ _ _ _ 0 0 8 _ (.int _ :: []) _ _
  refine ab_if_ne (tgt := 13) (pc2 := 11) dX10_fate_8 (by decide) rfl hf (fun c3 hf => ?_) (fun c3 hf => ?_)
  · refine ab_aload_n (x := _) (pc2 := 14) dX10_fate_13 rfl rfl ?_
    refine ab_getI (pc2 := 17) rfl ht0 fa_X10_50 (by decide) dX10_fate_14 rfl ?_
    refine ab_iload_n (pc2 := 18) dX10_fate_17 rfl rfl ?_
    obtain ⟨w4, ew4, hf⟩ := ab_bind hf
    refine ab_callS (pc2 := 21) (st := []) (m_X10_has (d := (d + 0)) ew4) mf_X10_has tw_170 tw_171 dX10_fate_18 rfl (by omega) (Nat.le_refl _) (Nat.le_refl _) rfl (Nat.le_of_ble_eq_true rfl) (fun v u hp => ?_)
    obtain ⟨rfl, rfl, z5⟩ := hp
    show ab_T _ _ _ _ 0 0 21 _ (.int _ :: []) _ _
    refine ab_if_eq (tgt := 41) (pc2 := 24) dX10_fate_21 (by decide) rfl hf (fun c6 hf => ?_) (fun c6 hf => ?_)
    · refine ab_aload_n (x := _) (pc2 := 42) dX10_fate_41 rfl rfl ?_
      refine ab_getI (pc2 := 45) rfl ht0 fa_X10_53 (by decide) dX10_fate_42 rfl ?_
      refine ab_iload_n (pc2 := 46) dX10_fate_45 rfl rfl ?_
      obtain ⟨w7, ew7, hf⟩ := ab_bind hf
      refine ab_callS (pc2 := 49) (st := []) (m_X10_has (d := (d + 0)) ew7) mf_X10_has tw_170 tw_171 dX10_fate_46 rfl (by omega) (Nat.le_refl _) (Nat.le_refl _) rfl (Nat.le_of_ble_eq_true rfl) (fun v u hp => ?_)
      obtain ⟨rfl, rfl, z8⟩ := hp
      show ab_T _ _ _ _ 0 0 49 _ (.int _ :: []) _ _
      refine ab_if_eq (tgt := 54) (pc2 := 52) dX10_fate_49 (by decide) rfl hf (fun c9 hf => ?_) (fun c9 hf => ?_)
      · refine ab_aload_n (x := _) (pc2 := 55) dX10_fate_54 rfl rfl ?_
        refine ab_getI (pc2 := 58) rfl ht0 fa_X10_56 (by decide) dX10_fate_55 rfl ?_
        refine ab_iload_n (pc2 := 59) dX10_fate_58 rfl rfl ?_
        obtain ⟨w10, ew10, hf⟩ := ab_bind hf
        refine ab_callS (pc2 := 62) (st := []) (m_X10_has (d := (d + 0)) ew10) mf_X10_has tw_170 tw_171 dX10_fate_59 rfl (by omega) (Nat.le_refl _) (Nat.le_refl _) rfl (Nat.le_of_ble_eq_true rfl) (fun v u hp => ?_)
        obtain ⟨rfl, rfl, z11⟩ := hp
        show ab_T _ _ _ _ 0 0 62 _ (.int _ :: []) _ _
        refine ab_if_eq (tgt := 69) (pc2 := 65) dX10_fate_62 (by decide) rfl hf (fun c12 hf => ?_) (fun c12 hf => ?_)
        · refine ab_iconst (pc2 := 70) (v := 4) dX10_fate_69 rfl ab_k_iconst_4 ?_
          cases Option.some.inj hf
          exact ab_retI dX10_fate_70 (Or.inl rfl) (Nat.le_refl _) (Nat.le_refl _) ⟨rfl, rfl⟩
        · refine ab_iconst (pc2 := 66) (v := 3) dX10_fate_65 rfl ab_k_iconst_3 ?_
          refine ab_goto (tgt := 70) dX10_fate_66 (by decide) ?_
          cases Option.some.inj hf
          exact ab_retI dX10_fate_70 (Or.inl rfl) (Nat.le_refl _) (Nat.le_refl _) ⟨rfl, rfl⟩
      · refine ab_iconst (pc2 := 53) (v := 2) dX10_fate_52 rfl ab_k_iconst_2 ?_
        cases Option.some.inj hf
        exact ab_retI dX10_fate_53 (Or.inl rfl) (Nat.le_refl _) (Nat.le_refl _) ⟨rfl, rfl⟩
    · refine ab_aload_n (x := _) (pc2 := 25) dX10_fate_24 rfl rfl ?_
      refine ab_getI (pc2 := 28) rfl ht0 fa_X10_59 (by decide) dX10_fate_25 rfl ?_
      refine ab_iload_n (pc2 := 29) dX10_fate_28 rfl rfl ?_
      obtain ⟨w13, ew13, hf⟩ := ab_bind hf
      refine ab_callS (pc2 := 32) (st := []) (m_X10_has (d := (d + 0)) ew13) mf_X10_has tw_170 tw_171 dX10_fate_29 rfl (by omega) (Nat.le_refl _) (Nat.le_refl _) rfl (Nat.le_of_ble_eq_true rfl) (fun v u hp => ?_)
      obtain ⟨rfl, rfl, z14⟩ := hp
      show ab_T _ _ _ _ 0 0 32 _ (.int _ :: []) _ _
      refine ab_if_eq (tgt := 39) (pc2 := 35) dX10_fate_32 (by decide) rfl hf (fun c15 hf => ?_) (fun c15 hf => ?_)
      · refine ab_iconst (pc2 := 40) (v := 1) dX10_fate_39 rfl ab_k_iconst_1 ?_
        cases Option.some.inj hf
        exact ab_retI dX10_fate_40 (Or.inl rfl) (Nat.le_refl _) (Nat.le_refl _) ⟨rfl, rfl⟩
      · refine ab_iconst (pc2 := 36) (v := 5) dX10_fate_35 rfl ab_k_iconst_5 ?_
        refine ab_goto (tgt := 40) dX10_fate_36 (by decide) ?_
        cases Option.some.inj hf
        exact ab_retI dX10_fate_40 (Or.inl rfl) (Nat.le_refl _) (Nat.le_refl _) ⟨rfl, rfl⟩
  · refine ab_iconst (pc2 := 12) (v := 0) dX10_fate_11 rfl ab_k_iconst_0 ?_
    cases Option.some.inj hf
    exact ab_retI dX10_fate_12 (Or.inl rfl) (Nat.le_refl _) (Nat.le_refl _) ⟨rfl, rfl⟩
set_option maxHeartbeats 4000000 in
set_option maxRecDepth 100000 in
theorem m_X10_fate {d : Nat} {t0 : Nat} {i1 : Int32} {h : ab_HP} {r : Int32} (ht0 : (ab_shp t0).1 = 2) (hf : f_X10_fate t0 i1 h = some r) : ab_MET mX10_fate (d + 1) 0 0 [va_rf (some t0), .int i1] h (ab_Pi r h) := ab_met (by decide +kernel) (by decide +kernel) (Nat.le_of_ble_eq_true rfl) rfl (x_X10_fate ht0 hf)
set_option maxHeartbeats 4000000 in
set_option maxRecDepth 100000 in
theorem x_X10_leastNails_b77 {d : Nat} {k8 : Int32 → Int32 → Int32 → Int32 → ab_HP → Option (Int32 × ab_HP)} {t0 : Nat} {i1 : Int32} {i4 : Int32} {h : ab_HP} {r : (Int32 × ab_HP)} (ht0 : (ab_shp t0).1 = 2) (hk8 : ∀ (i1 : Int32) (i2 : Int32) (i3 : Int32) (i4 : Int32) (h : ab_HP), k8 i1 i2 i3 i4 h = some r → ab_T mX10_leastNails (d + 5) 0 0 0 0 8 [some (va_rf (some t0)), some (.int i1), some (.int i2), some (.int i3), some (.int i4), none] [] h (ab_Pi r.1 r.2)) (hf : f_X10_leastNails_b77 k8 t0 i1 i4 h = some r) : ab_T mX10_leastNails (d + 5) 0 0 0 0 77 [some (va_rf (some t0)), some (.int i1), none, none, some (.int i4), none] [] h (ab_Pi r.1 r.2) := by
  unfold f_X10_leastNails_b77 at hf
  refine ab_iload (pc2 := 79) dX10_leastNails_77 rfl rfl ?_
  refine ab_istore_n (pc2 := 80) (lo2 := [some (va_rf _), some (.int _), some (.int _), none, some (.int _), none]) dX10_leastNails_79 rfl (by decide) rfl ?_
  refine ab_aload_n (x := _) (pc2 := 81) dX10_leastNails_80 rfl rfl ?_
  refine ab_getI (pc2 := 84) rfl ht0 fa_X10_44 (by decide) dX10_leastNails_81 rfl ?_
  refine ab_istore_n (pc2 := 85) (lo2 := [some (va_rf _), some (.int _), some (.int _), some (.int _), some (.int _), none]) dX10_leastNails_84 rfl (by decide) rfl ?_
  refine ab_iinc (pc2 := 88) (v := _ + 1) (lo2 := [some (va_rf _), some (.int _), some (.int _), some (.int _), some (.int _), none]) dX10_leastNails_85 rfl rfl rfl (by decide) rfl ?_
  refine ab_goto (tgt := 8) dX10_leastNails_88 (by decide) ?_
  exact ab_weak (hk8 _ _ _ _ _ hf) (ab_leS (ab_leS (ab_leS (ab_leS (ab_leS (ab_leN ab_le0))))))
set_option maxHeartbeats 4000000 in
set_option maxRecDepth 100000 in
theorem x_X10_leastNails_l8 {d : Nat} {t0 : Nat} {r : (Int32 × ab_HP)} (ht0 : (ab_shp t0).1 = 2) : ∀ (n : Nat) (i1 : Int32) (i2 : Int32) (i3 : Int32) (i4 : Int32) (h : ab_HP), f_X10_leastNails_l8 t0 n i1 i2 i3 i4 h = some r → ab_T mX10_leastNails (d + 5) 0 0 0 0 8 [some (va_rf (some t0)), some (.int i1), some (.int i2), some (.int i3), some (.int i4), none] [] h (ab_Pi r.1 r.2) := by
  intro n
  induction n with
  | zero =>
    intro i1 i2 i3 i4 h hf
    rw [f_X10_leastNails_l8] at hf
    cases hf
  | succ n ih =>
    intro i1 i2 i3 i4 h hf
    rw [f_X10_leastNails_l8] at hf
    refine ab_iload (pc2 := 10) dX10_leastNails_8 rfl rfl ?_
    refine ab_iconst (pc2 := 11) (v := 1) dX10_leastNails_10 rfl ab_k_iconst_1 ?_
    refine ab_aload_n (x := _) (pc2 := 12) dX10_leastNails_11 rfl rfl ?_
    refine ab_getI (pc2 := 15) rfl ht0 fa_X10_35 (by decide) dX10_leastNails_12 rfl ?_
    refine ab_ishl (pc2 := 16) dX10_leastNails_15 rfl ?_
    refine ab_icmp_ge (tgt := 91) (pc2 := 19) dX10_leastNails_16 (by decide) rfl hf (fun c1 hf => ?_) (fun c1 hf => ?_)
    · refine ab_iload_n (pc2 := 92) dX10_leastNails_91 rfl rfl ?_
      cases Option.some.inj hf
      exact ab_retI dX10_leastNails_92 (Or.inl rfl) (Nat.le_refl _) (Nat.le_refl _) ⟨rfl, rfl⟩
    · refine ab_iload_n (pc2 := 20) dX10_leastNails_19 rfl rfl ?_
      refine ab_if_ge (tgt := 27) (pc2 := 23) dX10_leastNails_20 (by decide) rfl hf (fun c2 hf => ?_) (fun c2 hf => ?_)
      · refine ab_iload_n (pc2 := 28) dX10_leastNails_27 rfl rfl ?_
        obtain ⟨w3, ew3, hf⟩ := ab_bind hf
        refine ab_callS (pc2 := 31) (st := []) (m_J6_bitCount_0f7a4 (d := (d + 4)) ew3) mf_J6_bitCount_0f7a4 tw_240 tw_203 dX10_leastNails_28 rfl (by omega) (Nat.le_refl _) (Nat.le_refl _) rfl (Nat.le_of_ble_eq_true rfl) (fun v u hp => ?_)
        obtain ⟨rfl, rfl⟩ := hp
        show ab_T _ _ _ _ 0 0 31 _ (.int _ :: []) _ _
        refine ab_iload (pc2 := 33) dX10_leastNails_31 rfl rfl ?_
        obtain ⟨w4, ew4, hf⟩ := ab_bind hf
        refine ab_callS (pc2 := 36) (st := [_]) (m_J6_bitCount_0f7a4 (d := (d + 4)) ew4) mf_J6_bitCount_0f7a4 tw_240 tw_203 dX10_leastNails_33 rfl (by omega) (Nat.le_refl _) (Nat.le_refl _) rfl (Nat.le_of_ble_eq_true rfl) (fun v u hp => ?_)
        obtain ⟨rfl, rfl⟩ := hp
        show ab_T _ _ _ _ 0 0 36 _ (.int _ :: [_]) _ _
        refine ab_isub (pc2 := 37) dX10_leastNails_36 rfl ?_
        refine ab_istore (pc2 := 39) (lo2 := [some (va_rf _), some (.int _), some (.int _), some (.int _), some (.int _), some (.int _)]) dX10_leastNails_37 rfl (by decide) rfl ?_
        refine ab_iload (pc2 := 41) dX10_leastNails_39 rfl rfl ?_
        refine ab_if_ge (tgt := 47) (pc2 := 44) dX10_leastNails_41 (by decide) rfl hf (fun c5 hf => ?_) (fun c5 hf => ?_)
        · refine ab_aload_n (x := _) (pc2 := 48) dX10_leastNails_47 rfl rfl ?_
          refine ab_iload (pc2 := 50) dX10_leastNails_48 rfl rfl ?_
          obtain ⟨w6, ew6, hf⟩ := ab_bind hf
          refine ab_callV (pc2 := 53) (st := []) rfl ht0 (by decide) (m_X10_play (d := (d + 0)) ht0 ew6) mf_X10_play tw_241 tw_194 ts_X10_play (Or.inl (by decide +kernel)) dX10_leastNails_50 rfl (by omega) (Nat.le_refl _) (Nat.le_refl _) rfl (Nat.le_of_ble_eq_true rfl) (fun v u hp => ?_)
          obtain ⟨rfl, rfl⟩ := hp
          show ab_T _ _ _ _ 0 0 53 _ ([]) _ _
          refine ab_iload_n (pc2 := 54) dX10_leastNails_53 rfl rfl ?_
          refine ab_aload_n (x := _) (pc2 := 55) dX10_leastNails_54 rfl rfl ?_
          refine ab_getI (pc2 := 58) rfl ht0 fa_X10_38 (by decide) dX10_leastNails_55 rfl ?_
          refine ab_iconst (pc2 := 59) (v := (-1)) dX10_leastNails_58 rfl ab_k_iconst_m1 ?_
          refine ab_ixor (pc2 := 60) dX10_leastNails_59 rfl ?_
          refine ab_iand (pc2 := 61) dX10_leastNails_60 rfl ?_
          refine ab_if_ne (tgt := 85) (pc2 := 64) dX10_leastNails_61 (by decide) rfl hf (fun c7 hf => ?_) (fun c7 hf => ?_)
          · refine ab_iinc (pc2 := 88) (v := _ + 1) (lo2 := [some (va_rf _), some (.int _), some (.int _), some (.int _), some (.int _), some (.int _)]) dX10_leastNails_85 rfl rfl rfl (by decide) rfl ?_
            refine ab_goto (tgt := 8) dX10_leastNails_88 (by decide) ?_
            exact ab_weak (ih _ _ _ _ _ hf) (ab_leS (ab_leS (ab_leS (ab_leS (ab_leS (ab_leN ab_le0))))))
          · refine ab_iload (pc2 := 66) dX10_leastNails_64 rfl rfl ?_
            refine ab_if_gt (tgt := 77) (pc2 := 69) dX10_leastNails_66 (by decide) rfl hf (fun c8 hf => ?_) (fun c8 hf => ?_)
            · exact ab_weak (x_X10_leastNails_b77 ht0 ih hf) (ab_leS (ab_leS (ab_leN (ab_leN (ab_leS (ab_leN ab_le0))))))
            · refine ab_aload_n (x := _) (pc2 := 70) dX10_leastNails_69 rfl rfl ?_
              refine ab_getI (pc2 := 73) rfl ht0 fa_X10_44 (by decide) dX10_leastNails_70 rfl ?_
              refine ab_iload_n (pc2 := 74) dX10_leastNails_73 rfl rfl ?_
              refine ab_icmp_ge (tgt := 85) (pc2 := 77) dX10_leastNails_74 (by decide) rfl hf (fun c9 hf => ?_) (fun c9 hf => ?_)
              · refine ab_iinc (pc2 := 88) (v := _ + 1) (lo2 := [some (va_rf _), some (.int _), some (.int _), some (.int _), some (.int _), some (.int _)]) dX10_leastNails_85 rfl rfl rfl (by decide) rfl ?_
                refine ab_goto (tgt := 8) dX10_leastNails_88 (by decide) ?_
                exact ab_weak (ih _ _ _ _ _ hf) (ab_leS (ab_leS (ab_leS (ab_leS (ab_leS (ab_leN ab_le0))))))
              · exact ab_weak (x_X10_leastNails_b77 ht0 ih hf) (ab_leS (ab_leS (ab_leN (ab_leN (ab_leS (ab_leN ab_le0))))))
        · refine ab_goto (tgt := 85) dX10_leastNails_44 (by decide) ?_
          refine ab_iinc (pc2 := 88) (v := _ + 1) (lo2 := [some (va_rf _), some (.int _), some (.int _), some (.int _), some (.int _), some (.int _)]) dX10_leastNails_85 rfl rfl rfl (by decide) rfl ?_
          refine ab_goto (tgt := 8) dX10_leastNails_88 (by decide) ?_
          exact ab_weak (ih _ _ _ _ _ hf) (ab_leS (ab_leS (ab_leS (ab_leS (ab_leS (ab_leN ab_le0))))))
      · refine ab_iconst (pc2 := 24) (v := 1) dX10_leastNails_23 rfl ab_k_iconst_1 ?_
        refine ab_goto (tgt := 37) dX10_leastNails_24 (by decide) ?_
        refine ab_istore (pc2 := 39) (lo2 := [some (va_rf _), some (.int _), some (.int _), some (.int _), some (.int _), some (.int _)]) dX10_leastNails_37 rfl (by decide) rfl ?_
        refine ab_iload (pc2 := 41) dX10_leastNails_39 rfl rfl ?_
        refine ab_if_ge (tgt := 47) (pc2 := 44) dX10_leastNails_41 (by decide) rfl hf (fun c10 hf => ?_) (fun c10 hf => ?_)
        · refine ab_aload_n (x := _) (pc2 := 48) dX10_leastNails_47 rfl rfl ?_
          refine ab_iload (pc2 := 50) dX10_leastNails_48 rfl rfl ?_
          obtain ⟨w11, ew11, hf⟩ := ab_bind hf
          refine ab_callV (pc2 := 53) (st := []) rfl ht0 (by decide) (m_X10_play (d := (d + 0)) ht0 ew11) mf_X10_play tw_241 tw_194 ts_X10_play (Or.inl (by decide +kernel)) dX10_leastNails_50 rfl (by omega) (Nat.le_refl _) (Nat.le_refl _) rfl (Nat.le_of_ble_eq_true rfl) (fun v u hp => ?_)
          obtain ⟨rfl, rfl⟩ := hp
          show ab_T _ _ _ _ 0 0 53 _ ([]) _ _
          refine ab_iload_n (pc2 := 54) dX10_leastNails_53 rfl rfl ?_
          refine ab_aload_n (x := _) (pc2 := 55) dX10_leastNails_54 rfl rfl ?_
          refine ab_getI (pc2 := 58) rfl ht0 fa_X10_38 (by decide) dX10_leastNails_55 rfl ?_
          refine ab_iconst (pc2 := 59) (v := (-1)) dX10_leastNails_58 rfl ab_k_iconst_m1 ?_
          refine ab_ixor (pc2 := 60) dX10_leastNails_59 rfl ?_
          refine ab_iand (pc2 := 61) dX10_leastNails_60 rfl ?_
          refine ab_if_ne (tgt := 85) (pc2 := 64) dX10_leastNails_61 (by decide) rfl hf (fun c12 hf => ?_) (fun c12 hf => ?_)
          · refine ab_iinc (pc2 := 88) (v := _ + 1) (lo2 := [some (va_rf _), some (.int _), some (.int _), some (.int _), some (.int _), some (.int _)]) dX10_leastNails_85 rfl rfl rfl (by decide) rfl ?_
            refine ab_goto (tgt := 8) dX10_leastNails_88 (by decide) ?_
            exact ab_weak (ih _ _ _ _ _ hf) (ab_leS (ab_leS (ab_leS (ab_leS (ab_leS (ab_leN ab_le0))))))
          · refine ab_iload (pc2 := 66) dX10_leastNails_64 rfl rfl ?_
            refine ab_if_gt (tgt := 77) (pc2 := 69) dX10_leastNails_66 (by decide) rfl hf (fun c13 hf => ?_) (fun c13 hf => ?_)
            · exact ab_weak (x_X10_leastNails_b77 ht0 ih hf) (ab_leS (ab_leS (ab_leN (ab_leN (ab_leS (ab_leN ab_le0))))))
            · refine ab_aload_n (x := _) (pc2 := 70) dX10_leastNails_69 rfl rfl ?_
              refine ab_getI (pc2 := 73) rfl ht0 fa_X10_44 (by decide) dX10_leastNails_70 rfl ?_
              refine ab_iload_n (pc2 := 74) dX10_leastNails_73 rfl rfl ?_
              refine ab_icmp_ge (tgt := 85) (pc2 := 77) dX10_leastNails_74 (by decide) rfl hf (fun c14 hf => ?_) (fun c14 hf => ?_)
              · refine ab_iinc (pc2 := 88) (v := _ + 1) (lo2 := [some (va_rf _), some (.int _), some (.int _), some (.int _), some (.int _), some (.int _)]) dX10_leastNails_85 rfl rfl rfl (by decide) rfl ?_
                refine ab_goto (tgt := 8) dX10_leastNails_88 (by decide) ?_
                exact ab_weak (ih _ _ _ _ _ hf) (ab_leS (ab_leS (ab_leS (ab_leS (ab_leS (ab_leN ab_le0))))))
              · exact ab_weak (x_X10_leastNails_b77 ht0 ih hf) (ab_leS (ab_leS (ab_leN (ab_leN (ab_leS (ab_leN ab_le0))))))
        · refine ab_goto (tgt := 85) dX10_leastNails_44 (by decide) ?_
          refine ab_iinc (pc2 := 88) (v := _ + 1) (lo2 := [some (va_rf _), some (.int _), some (.int _), some (.int _), some (.int _), some (.int _)]) dX10_leastNails_85 rfl rfl rfl (by decide) rfl ?_
          refine ab_goto (tgt := 8) dX10_leastNails_88 (by decide) ?_
          exact ab_weak (ih _ _ _ _ _ hf) (ab_leS (ab_leS (ab_leS (ab_leS (ab_leS (ab_leN ab_le0))))))
set_option maxHeartbeats 4000000 in
set_option maxRecDepth 100000 in
theorem x_X10_leastNails {d : Nat} {t0 : Nat} {i1 : Int32} {h : ab_HP} {r : (Int32 × ab_HP)} (ht0 : (ab_shp t0).1 = 2) (hf : f_X10_leastNails t0 i1 h = some r) : ab_T mX10_leastNails (d + 5) 0 0 0 0 0 [some (va_rf (some t0)), some (.int i1), none, none, none, none] [] h (ab_Pi r.1 r.2) := by
  unfold f_X10_leastNails at hf
  refine ab_bipush (pc2 := 2) (v := (-4)) dX10_leastNails_0 rfl ab_k_bipush_m4 ?_
  refine ab_istore_n (pc2 := 3) (lo2 := [some (va_rf _), some (.int _), some (.int _), none, none, none]) dX10_leastNails_2 rfl (by decide) rfl ?_
  refine ab_iconst (pc2 := 4) (v := 0) dX10_leastNails_3 rfl ab_k_iconst_0 ?_
  refine ab_istore_n (pc2 := 5) (lo2 := [some (va_rf _), some (.int _), some (.int _), some (.int _), none, none]) dX10_leastNails_4 rfl (by decide) rfl ?_
  refine ab_iconst (pc2 := 6) (v := 0) dX10_leastNails_5 rfl ab_k_iconst_0 ?_
  refine ab_istore (pc2 := 8) (lo2 := [some (va_rf _), some (.int _), some (.int _), some (.int _), some (.int _), none]) dX10_leastNails_6 rfl (by decide) rfl ?_
  exact ab_weak (x_X10_leastNails_l8 ht0 _ _ _ _ _ _ hf) (ab_leS (ab_leS (ab_leS (ab_leS (ab_leS (ab_leN ab_le0))))))
set_option maxHeartbeats 4000000 in
set_option maxRecDepth 100000 in
theorem m_X10_leastNails {d : Nat} {t0 : Nat} {i1 : Int32} {h : ab_HP} {r : (Int32 × ab_HP)} (ht0 : (ab_shp t0).1 = 2) (hf : f_X10_leastNails t0 i1 h = some r) : ab_MET mX10_leastNails (d + 5) 0 0 [va_rf (some t0), .int i1] h (ab_Pi r.1 r.2) := ab_met (by decide +kernel) (by decide +kernel) (Nat.le_of_ble_eq_true rfl) rfl (x_X10_leastNails ht0 hf)
set_option maxHeartbeats 4000000 in
set_option maxRecDepth 100000 in
theorem x_X6_rowRefusal {d : Nat} {t0 : Nat} {h : ab_HP} {r : Int32} (ht0 : (ab_shp t0).1 = 3) (hf : f_X6_rowRefusal t0 h = some r) : ab_T mX6_rowRefusal (d + 1) 0 0 0 0 0 [some (va_rf (some t0))] [] h (ab_Pi r h) := by
  unfold f_X6_rowRefusal at hf
  refine ab_aload_n (x := _) (pc2 := 1) dX6_rowRefusal_0 rfl rfl ?_
  obtain ⟨w1, ew1, hf⟩ := ab_bind hf
  refine ab_callV (pc2 := 4) (st := []) rfl ht0 (by decide) (m_X6_isEmpty (d := (d + 0)) ht0 ew1) mf_X6_isEmpty tw_17 tw_16 ts_X6_isEmpty (Or.inl (by decide +kernel)) dX6_rowRefusal_1 rfl (by omega) (Nat.le_refl _) (Nat.le_refl _) rfl (Nat.le_of_ble_eq_true rfl) (fun v u hp => ?_)
  obtain ⟨rfl, rfl, z2⟩ := hp
  show ab_T _ _ _ _ 0 0 4 _ (.int _ :: []) _ _
  refine ab_if_eq (tgt := 12) (pc2 := 7) dX6_rowRefusal_4 (by decide) rfl hf (fun c3 hf => ?_) (fun c3 hf => ?_)
  · refine ab_aload_n (x := _) (pc2 := 13) dX6_rowRefusal_12 rfl rfl ?_
    refine ab_getI (pc2 := 16) rfl ht0 fa_X6_15 (by decide) dX6_rowRefusal_13 rfl ?_
    refine ab_iconst (pc2 := 17) (v := (-1)) dX6_rowRefusal_16 rfl ab_k_iconst_m1 ?_
    refine ab_icmp_ne (tgt := 25) (pc2 := 20) dX6_rowRefusal_17 (by decide) rfl hf (fun c4 hf => ?_) (fun c4 hf => ?_)
    · refine ab_iconst (pc2 := 26) (v := 0) dX6_rowRefusal_25 rfl ab_k_iconst_0 ?_
      cases Option.some.inj hf
      exact ab_retI dX6_rowRefusal_26 (Or.inl rfl) (Nat.le_refl _) (Nat.le_refl _) ⟨rfl, rfl⟩
    · refine ab_bipush (pc2 := 22) (v := (-12)) dX6_rowRefusal_20 rfl ab_k_bipush_m12 ?_
      refine ab_goto (tgt := 26) dX6_rowRefusal_22 (by decide) ?_
      cases Option.some.inj hf
      exact ab_retI dX6_rowRefusal_26 (Or.inl rfl) (Nat.le_refl _) (Nat.le_refl _) ⟨rfl, rfl⟩
  · refine ab_bipush (pc2 := 9) (v := (-11)) dX6_rowRefusal_7 rfl ab_k_bipush_m11 ?_
    refine ab_goto (tgt := 26) dX6_rowRefusal_9 (by decide) ?_
    cases Option.some.inj hf
    exact ab_retI dX6_rowRefusal_26 (Or.inl rfl) (Nat.le_refl _) (Nat.le_refl _) ⟨rfl, rfl⟩
set_option maxHeartbeats 4000000 in
set_option maxRecDepth 100000 in
theorem m_X6_rowRefusal {d : Nat} {t0 : Nat} {h : ab_HP} {r : Int32} (ht0 : (ab_shp t0).1 = 3) (hf : f_X6_rowRefusal t0 h = some r) : ab_MET mX6_rowRefusal (d + 1) 0 0 [va_rf (some t0)] h (ab_Pi r h) := ab_met (by decide +kernel) (by decide +kernel) (Nat.le_of_ble_eq_true rfl) rfl (x_X6_rowRefusal ht0 hf)
set_option maxHeartbeats 4000000 in
set_option maxRecDepth 100000 in
theorem x_X6_leastNumber {d : Nat} {t0 : Nat} {h : ab_HP} {r : Int32} (ht0 : (ab_shp t0).1 = 3) (hf : f_X6_leastNumber t0 h = some r) : ab_T mX6_leastNumber (d + 0) 0 0 0 0 0 [some (va_rf (some t0))] [] h (ab_Pi r h) := by
  unfold f_X6_leastNumber at hf
  refine ab_aload_n (x := _) (pc2 := 1) dX6_leastNumber_0 rfl rfl ?_
  refine ab_getI (pc2 := 4) rfl ht0 fa_X6_15 (by decide) dX6_leastNumber_1 rfl ?_
  refine ab_if_ne (tgt := 12) (pc2 := 7) dX6_leastNumber_4 (by decide) rfl hf (fun c1 hf => ?_) (fun c1 hf => ?_)
  · refine ab_aload_n (x := _) (pc2 := 13) dX6_leastNumber_12 rfl rfl ?_
    refine ab_getI (pc2 := 16) rfl ht0 fa_X6_15 (by decide) dX6_leastNumber_13 rfl ?_
    refine ab_iconst (pc2 := 17) (v := 1) dX6_leastNumber_16 rfl ab_k_iconst_1 ?_
    refine ab_icmp_ne (tgt := 26) (pc2 := 20) dX6_leastNumber_17 (by decide) rfl hf (fun c2 hf => ?_) (fun c2 hf => ?_)
    · refine ab_ldc (pc2 := 28) (v := (-2147483648)) dX6_leastNumber_26 rfl tw_22 ?_
      cases Option.some.inj hf
      exact ab_retI dX6_leastNumber_28 (Or.inl rfl) (Nat.le_refl _) (Nat.le_refl _) ⟨rfl, rfl⟩
    · refine ab_sipush (pc2 := 23) (v := (-32768)) dX6_leastNumber_20 rfl ab_k_sipush_m32768 ?_
      refine ab_goto (tgt := 28) dX6_leastNumber_23 (by decide) ?_
      cases Option.some.inj hf
      exact ab_retI dX6_leastNumber_28 (Or.inl rfl) (Nat.le_refl _) (Nat.le_refl _) ⟨rfl, rfl⟩
  · refine ab_bipush (pc2 := 9) (v := (-128)) dX6_leastNumber_7 rfl ab_k_bipush_m128 ?_
    refine ab_goto (tgt := 28) dX6_leastNumber_9 (by decide) ?_
    cases Option.some.inj hf
    exact ab_retI dX6_leastNumber_28 (Or.inl rfl) (Nat.le_refl _) (Nat.le_refl _) ⟨rfl, rfl⟩
set_option maxHeartbeats 4000000 in
set_option maxRecDepth 100000 in
theorem m_X6_leastNumber {d : Nat} {t0 : Nat} {h : ab_HP} {r : Int32} (ht0 : (ab_shp t0).1 = 3) (hf : f_X6_leastNumber t0 h = some r) : ab_MET mX6_leastNumber (d + 0) 0 0 [va_rf (some t0)] h (ab_Pi r h) := ab_met (by decide +kernel) (by decide +kernel) (Nat.le_of_ble_eq_true rfl) rfl (x_X6_leastNumber ht0 hf)
set_option maxHeartbeats 4000000 in
set_option maxRecDepth 100000 in
theorem x_X6_hold {d : Nat} {t0 : Nat} {i1 : Option Nat} {h : ab_HP} {r : ab_HP} (ht0 : (ab_shp t0).1 = 3) (T_i1 : ∀ z, i1 = some z → (ab_shp z).1 = 4) (hf : f_X6_hold t0 i1 h = some r) : ab_T mX6_hold (d + 0) 0 0 0 0 0 [some (va_rf (some t0)), some (va_rf i1)] [] h (ab_Pv r) := by
  unfold f_X6_hold at hf
  refine ab_aload_n (x := _) (pc2 := 1) dX6_hold_0 rfl rfl ?_
  refine ab_aload_n (x := _) (pc2 := 2) dX6_hold_1 rfl rfl ?_
  have hf := ab_let_e hf
  refine ab_putR (pc2 := 5) rfl ht0 fa_X6_19 T_i1 (fun z => by cases z) dX6_hold_2 rfl ?_
  refine ab_aload_n (x := _) (pc2 := 6) dX6_hold_5 rfl rfl ?_
  refine ab_iconst (pc2 := 7) (v := (-1)) dX6_hold_6 rfl ab_k_iconst_m1 ?_
  have hf := ab_let_e hf
  refine ab_putI (pc2 := 10) rfl ht0 fa_X6_15 (Or.inl rfl) (fun z => by cases z) dX6_hold_7 rfl ?_
  refine ab_aload_n (x := _) (pc2 := 11) dX6_hold_10 rfl rfl ?_
  refine ab_iconst (pc2 := 12) (v := 0) dX6_hold_11 rfl ab_k_iconst_0 ?_
  have hf := ab_let_e hf
  refine ab_putI (pc2 := 15) rfl ht0 fa_X6_23 (Or.inl rfl) (fun z => by cases z) dX6_hold_12 rfl ?_
  cases Option.some.inj hf
  exact ab_retV dX6_hold_15 rfl (Nat.le_refl _) (Nat.le_refl _) ⟨rfl, rfl⟩
set_option maxHeartbeats 4000000 in
set_option maxRecDepth 100000 in
theorem m_X6_hold {d : Nat} {t0 : Nat} {i1 : Option Nat} {h : ab_HP} {r : ab_HP} (ht0 : (ab_shp t0).1 = 3) (T_i1 : ∀ z, i1 = some z → (ab_shp z).1 = 4) (hf : f_X6_hold t0 i1 h = some r) : ab_MET mX6_hold (d + 0) 0 0 [va_rf (some t0), va_rf i1] h (ab_Pv r) := ab_met (by decide +kernel) (by decide +kernel) (by simp [ab_lo, ab_rf1, Value.category]) (by simp [ab_lo0, ab_lo, ab_rf1, Value.category, List.replicate]) (x_X6_hold ht0 T_i1 hf)
set_option maxHeartbeats 4000000 in
set_option maxRecDepth 100000 in
theorem x_X6_holdRow_l17 {d : Nat} {t0 : Nat} {r : ab_HP} (ht0 : (ab_shp t0).1 = 3) : ∀ (n : Nat) (i3 : Int32) (h : ab_HP), f_X6_holdRow_l17 t0 n i3 h = some r → ab_T mX6_holdRow (d + 0) 0 0 0 0 17 [some (va_rf (some t0)), none, none, some (.int i3)] [] h (ab_Pv r) := by
  intro n
  induction n with
  | zero =>
    intro i3 h hf
    rw [f_X6_holdRow_l17] at hf
    cases hf
  | succ n ih =>
    intro i3 h hf
    rw [f_X6_holdRow_l17] at hf
    refine ab_iload_n (pc2 := 18) dX6_holdRow_17 rfl rfl ?_
    refine ab_aload_n (x := _) (pc2 := 19) dX6_holdRow_18 rfl rfl ?_
    refine ab_getR (pc2 := 22) rfl ht0 fa_X6_11 dX6_holdRow_19 rfl (fun T4 => ?_)
    obtain ⟨q5, hq5, hf⟩ := ab_bind hf
    refine ab_alen (pc2 := 23) hq5 (Or.inl (T4 q5 hq5)) dX6_holdRow_22 rfl ?_
    refine ab_icmp_ge (tgt := 39) (pc2 := 26) dX6_holdRow_23 (by decide) rfl hf (fun c6 hf => ?_) (fun c6 hf => ?_)
    · cases Option.some.inj hf
      exact ab_retV dX6_holdRow_39 rfl (Nat.le_refl _) (Nat.le_refl _) ⟨rfl, rfl⟩
    · refine ab_aload_n (x := _) (pc2 := 27) dX6_holdRow_26 rfl rfl ?_
      refine ab_getR (pc2 := 30) rfl ht0 fa_X6_11 dX6_holdRow_27 rfl (fun T7 => ?_)
      refine ab_iload_n (pc2 := 31) dX6_holdRow_30 rfl rfl ?_
      refine ab_iconst (pc2 := 32) (v := 0) dX6_holdRow_31 rfl ab_k_iconst_0 ?_
      obtain ⟨q8, hq8, hf⟩ := ab_bind hf
      obtain ⟨b9, hf⟩ := ab_guard hf
      have hf := ab_let_e hf
      refine ab_iast (pc2 := 33) hq8 (T7 q8 hq8) (ab_in_vp b9) dX6_holdRow_32 rfl ?_
      refine ab_iinc (pc2 := 36) (v := _ + 1) (lo2 := [some (va_rf _), none, none, some (.int _)]) dX6_holdRow_33 rfl rfl rfl (by decide) rfl ?_
      refine ab_goto (tgt := 17) dX6_holdRow_36 (by decide) ?_
      exact ab_weak (ih _ _ hf) (ab_leS (ab_leN (ab_leN (ab_leS ab_le0))))
set_option maxHeartbeats 4000000 in
set_option maxRecDepth 100000 in
theorem x_X6_holdRow {d : Nat} {t0 : Nat} {i1 : Int32} {i2 : Int32} {h : ab_HP} {r : ab_HP} (ht0 : (ab_shp t0).1 = 3) (hf : f_X6_holdRow t0 i1 i2 h = some r) : ab_T mX6_holdRow (d + 0) 0 0 0 0 0 [some (va_rf (some t0)), some (.int i1), some (.int i2), none] [] h (ab_Pv r) := by
  unfold f_X6_holdRow at hf
  refine ab_aload_n (x := _) (pc2 := 1) dX6_holdRow_0 rfl rfl ?_
  refine ab_null (pc2 := 2) dX6_holdRow_1 rfl ?_
  have hf := ab_let_e hf
  refine ab_putR (pc2 := 5) rfl ht0 fa_X6_19 (fun z hz => by cases hz) (fun z => by cases z) dX6_holdRow_2 rfl ?_
  refine ab_aload_n (x := _) (pc2 := 6) dX6_holdRow_5 rfl rfl ?_
  refine ab_iload_n (pc2 := 7) dX6_holdRow_6 rfl rfl ?_
  have hf := ab_let_e hf
  refine ab_putI (pc2 := 10) rfl ht0 fa_X6_15 (Or.inl rfl) (fun z => by cases z) dX6_holdRow_7 rfl ?_
  refine ab_aload_n (x := _) (pc2 := 11) dX6_holdRow_10 rfl rfl ?_
  refine ab_iload_n (pc2 := 12) dX6_holdRow_11 rfl rfl ?_
  have hf := ab_let_e hf
  refine ab_putI (pc2 := 15) rfl ht0 fa_X6_23 (Or.inl rfl) (fun z => by cases z) dX6_holdRow_12 rfl ?_
  refine ab_iconst (pc2 := 16) (v := 0) dX6_holdRow_15 rfl ab_k_iconst_0 ?_
  refine ab_istore_n (pc2 := 17) (lo2 := [some (va_rf _), some (.int _), some (.int _), some (.int _)]) dX6_holdRow_16 rfl (by decide) rfl ?_
  exact ab_weak (x_X6_holdRow_l17 ht0 _ _ _ hf) (ab_leS (ab_leN (ab_leN (ab_leS ab_le0))))
set_option maxHeartbeats 4000000 in
set_option maxRecDepth 100000 in
theorem m_X6_holdRow {d : Nat} {t0 : Nat} {i1 : Int32} {i2 : Int32} {h : ab_HP} {r : ab_HP} (ht0 : (ab_shp t0).1 = 3) (hf : f_X6_holdRow t0 i1 i2 h = some r) : ab_MET mX6_holdRow (d + 0) 0 0 [va_rf (some t0), .int i1, .int i2] h (ab_Pv r) := ab_met (by decide +kernel) (by decide +kernel) (Nat.le_of_ble_eq_true rfl) rfl (x_X6_holdRow ht0 hf)
set_option maxHeartbeats 4000000 in
set_option maxRecDepth 100000 in
theorem x_X6_write {d : Nat} {t0 : Nat} {i1 : Int32} {i2 : Int32} {h : ab_HP} {r : (Int32 × ab_HP)} (ht0 : (ab_shp t0).1 = 3) (hf : f_X6_write t0 i1 i2 h = some r) : ab_T mX6_write (d + 1) 0 0 0 0 0 [some (va_rf (some t0)), some (.int i1), some (.int i2)] [] h (ab_Pb r.1 r.2) := by
  unfold f_X6_write at hf
  refine ab_aload_n (x := _) (pc2 := 1) dX6_write_0 rfl rfl ?_
  refine ab_iload_n (pc2 := 2) dX6_write_1 rfl rfl ?_
  obtain ⟨w1, ew1, hf⟩ := ab_bind hf
  refine ab_callV (pc2 := 5) (st := []) rfl ht0 (by decide) (m_X6_hasPlace (d := (d + 0)) ht0 ew1) mf_X6_hasPlace tw_21 tw_20 ts_X6_hasPlace (Or.inl (by decide +kernel)) dX6_write_2 rfl (by omega) (Nat.le_refl _) (Nat.le_refl _) rfl (Nat.le_of_ble_eq_true rfl) (fun v u hp => ?_)
  obtain ⟨rfl, rfl, z2⟩ := hp
  show ab_T _ _ _ _ 0 0 5 _ (.int _ :: []) _ _
  refine ab_if_ne (tgt := 10) (pc2 := 8) dX6_write_5 (by decide) rfl hf (fun c3 hf => ?_) (fun c3 hf => ?_)
  · refine ab_aload_n (x := _) (pc2 := 11) dX6_write_10 rfl rfl ?_
    refine ab_getR (pc2 := 14) rfl ht0 fa_X6_11 dX6_write_11 rfl (fun T4 => ?_)
    refine ab_iload_n (pc2 := 15) dX6_write_14 rfl rfl ?_
    refine ab_aload_n (x := _) (pc2 := 16) dX6_write_15 rfl rfl ?_
    refine ab_getI (pc2 := 19) rfl ht0 fa_X6_15 (by decide) dX6_write_16 rfl ?_
    refine ab_if_ne (tgt := 27) (pc2 := 22) dX6_write_19 (by decide) rfl hf (fun c5 hf => ?_) (fun c5 hf => ?_)
    · refine ab_aload_n (x := _) (pc2 := 28) dX6_write_27 rfl rfl ?_
      refine ab_getI (pc2 := 31) rfl ht0 fa_X6_15 (by decide) dX6_write_28 rfl ?_
      refine ab_iconst (pc2 := 32) (v := 1) dX6_write_31 rfl ab_k_iconst_1 ?_
      refine ab_icmp_ne (tgt := 40) (pc2 := 35) dX6_write_32 (by decide) rfl hf (fun c6 hf => ?_) (fun c6 hf => ?_)
      · refine ab_iload_n (pc2 := 41) dX6_write_40 rfl rfl ?_
        obtain ⟨w7, ew7, hf⟩ := ab_bind hf
        refine ab_callSN (pc2 := 44) (st := []) (m_X11_store (d := (d + 0)) T4 ew7) mf_X11_store tn_X6_39 tw_169 dX6_write_41 rfl (by omega) (Nat.le_refl _) (Nat.le_refl _) rfl (Nat.le_of_ble_eq_true rfl) (fun v u hp => ?_)
        obtain ⟨rfl, rfl⟩ := hp
        show ab_T _ _ _ _ 0 0 44 _ ([]) _ _
        refine ab_iconst (pc2 := 45) (v := 1) dX6_write_44 rfl ab_k_iconst_1 ?_
        cases Option.some.inj hf
        exact ab_retI dX6_write_45 (Or.inr ⟨rfl, (Or.inr rfl)⟩) (Nat.le_refl _) (Nat.le_refl _) ⟨rfl, rfl, (Or.inr rfl)⟩
      · refine ab_iload_n (pc2 := 36) dX6_write_35 rfl rfl ?_
        refine ab_i2s (pc2 := 37) dX6_write_36 rfl ?_
        refine ab_goto (tgt := 41) dX6_write_37 (by decide) ?_
        obtain ⟨w8, ew8, hf⟩ := ab_bind hf
        refine ab_callSN (pc2 := 44) (st := []) (m_X11_store (d := (d + 0)) T4 ew8) mf_X11_store tn_X6_39 tw_169 dX6_write_41 rfl (by omega) (Nat.le_refl _) (Nat.le_refl _) rfl (Nat.le_of_ble_eq_true rfl) (fun v u hp => ?_)
        obtain ⟨rfl, rfl⟩ := hp
        show ab_T _ _ _ _ 0 0 44 _ ([]) _ _
        refine ab_iconst (pc2 := 45) (v := 1) dX6_write_44 rfl ab_k_iconst_1 ?_
        cases Option.some.inj hf
        exact ab_retI dX6_write_45 (Or.inr ⟨rfl, (Or.inr rfl)⟩) (Nat.le_refl _) (Nat.le_refl _) ⟨rfl, rfl, (Or.inr rfl)⟩
    · refine ab_iload_n (pc2 := 23) dX6_write_22 rfl rfl ?_
      refine ab_i2b (pc2 := 24) dX6_write_23 rfl ?_
      refine ab_goto (tgt := 41) dX6_write_24 (by decide) ?_
      obtain ⟨w9, ew9, hf⟩ := ab_bind hf
      refine ab_callSN (pc2 := 44) (st := []) (m_X11_store (d := (d + 0)) T4 ew9) mf_X11_store tn_X6_39 tw_169 dX6_write_41 rfl (by omega) (Nat.le_refl _) (Nat.le_refl _) rfl (Nat.le_of_ble_eq_true rfl) (fun v u hp => ?_)
      obtain ⟨rfl, rfl⟩ := hp
      show ab_T _ _ _ _ 0 0 44 _ ([]) _ _
      refine ab_iconst (pc2 := 45) (v := 1) dX6_write_44 rfl ab_k_iconst_1 ?_
      cases Option.some.inj hf
      exact ab_retI dX6_write_45 (Or.inr ⟨rfl, (Or.inr rfl)⟩) (Nat.le_refl _) (Nat.le_refl _) ⟨rfl, rfl, (Or.inr rfl)⟩
  · refine ab_iconst (pc2 := 9) (v := 0) dX6_write_8 rfl ab_k_iconst_0 ?_
    cases Option.some.inj hf
    exact ab_retI dX6_write_9 (Or.inr ⟨rfl, (Or.inl rfl)⟩) (Nat.le_refl _) (Nat.le_refl _) ⟨rfl, rfl, (Or.inl rfl)⟩
set_option maxHeartbeats 4000000 in
set_option maxRecDepth 100000 in
theorem m_X6_write {d : Nat} {t0 : Nat} {i1 : Int32} {i2 : Int32} {h : ab_HP} {r : (Int32 × ab_HP)} (ht0 : (ab_shp t0).1 = 3) (hf : f_X6_write t0 i1 i2 h = some r) : ab_MET mX6_write (d + 1) 0 0 [va_rf (some t0), .int i1, .int i2] h (ab_Pb r.1 r.2) := ab_met (by decide +kernel) (by decide +kernel) (Nat.le_of_ble_eq_true rfl) rfl (x_X6_write ht0 hf)
set_option maxHeartbeats 4000000 in
set_option maxRecDepth 100000 in
theorem x_X6_hasPlaces {d : Nat} {t0 : Nat} {i1 : Int32} {i2 : Int32} {h : ab_HP} {r : Int32} (ht0 : (ab_shp t0).1 = 3) (hf : f_X6_hasPlaces t0 i1 i2 h = some r) : ab_T mX6_hasPlaces (d + 0) 0 0 0 0 0 [some (va_rf (some t0)), some (.int i1), some (.int i2)] [] h (ab_Pb r h) := by
  unfold f_X6_hasPlaces at hf
  refine ab_iload_n (pc2 := 1) dX6_hasPlaces_0 rfl rfl ?_
  refine ab_if_lt (tgt := 30) (pc2 := 4) dX6_hasPlaces_1 (by decide) rfl hf (fun c1 hf => ?_) (fun c1 hf => ?_)
  · refine ab_iconst (pc2 := 31) (v := 0) dX6_hasPlaces_30 rfl ab_k_iconst_0 ?_
    cases Option.some.inj hf
    exact ab_retI dX6_hasPlaces_31 (Or.inr ⟨rfl, (Or.inl rfl)⟩) (Nat.le_refl _) (Nat.le_refl _) ⟨rfl, rfl, (Or.inl rfl)⟩
  · refine ab_iload_n (pc2 := 5) dX6_hasPlaces_4 rfl rfl ?_
    refine ab_if_lt (tgt := 30) (pc2 := 8) dX6_hasPlaces_5 (by decide) rfl hf (fun c2 hf => ?_) (fun c2 hf => ?_)
    · refine ab_iconst (pc2 := 31) (v := 0) dX6_hasPlaces_30 rfl ab_k_iconst_0 ?_
      cases Option.some.inj hf
      exact ab_retI dX6_hasPlaces_31 (Or.inr ⟨rfl, (Or.inl rfl)⟩) (Nat.le_refl _) (Nat.le_refl _) ⟨rfl, rfl, (Or.inl rfl)⟩
    · refine ab_iload_n (pc2 := 9) dX6_hasPlaces_8 rfl rfl ?_
      refine ab_aload_n (x := _) (pc2 := 10) dX6_hasPlaces_9 rfl rfl ?_
      refine ab_getI (pc2 := 13) rfl ht0 fa_X6_23 (by decide) dX6_hasPlaces_10 rfl ?_
      refine ab_icmp_gt (tgt := 30) (pc2 := 16) dX6_hasPlaces_13 (by decide) rfl hf (fun c3 hf => ?_) (fun c3 hf => ?_)
      · refine ab_iconst (pc2 := 31) (v := 0) dX6_hasPlaces_30 rfl ab_k_iconst_0 ?_
        cases Option.some.inj hf
        exact ab_retI dX6_hasPlaces_31 (Or.inr ⟨rfl, (Or.inl rfl)⟩) (Nat.le_refl _) (Nat.le_refl _) ⟨rfl, rfl, (Or.inl rfl)⟩
      · refine ab_iload_n (pc2 := 17) dX6_hasPlaces_16 rfl rfl ?_
        refine ab_aload_n (x := _) (pc2 := 18) dX6_hasPlaces_17 rfl rfl ?_
        refine ab_getI (pc2 := 21) rfl ht0 fa_X6_23 (by decide) dX6_hasPlaces_18 rfl ?_
        refine ab_iload_n (pc2 := 22) dX6_hasPlaces_21 rfl rfl ?_
        refine ab_isub (pc2 := 23) dX6_hasPlaces_22 rfl ?_
        refine ab_icmp_gt (tgt := 30) (pc2 := 26) dX6_hasPlaces_23 (by decide) rfl hf (fun c4 hf => ?_) (fun c4 hf => ?_)
        · refine ab_iconst (pc2 := 31) (v := 0) dX6_hasPlaces_30 rfl ab_k_iconst_0 ?_
          cases Option.some.inj hf
          exact ab_retI dX6_hasPlaces_31 (Or.inr ⟨rfl, (Or.inl rfl)⟩) (Nat.le_refl _) (Nat.le_refl _) ⟨rfl, rfl, (Or.inl rfl)⟩
        · refine ab_iconst (pc2 := 27) (v := 1) dX6_hasPlaces_26 rfl ab_k_iconst_1 ?_
          refine ab_goto (tgt := 31) dX6_hasPlaces_27 (by decide) ?_
          cases Option.some.inj hf
          exact ab_retI dX6_hasPlaces_31 (Or.inr ⟨rfl, (Or.inr rfl)⟩) (Nat.le_refl _) (Nat.le_refl _) ⟨rfl, rfl, (Or.inr rfl)⟩
set_option maxHeartbeats 4000000 in
set_option maxRecDepth 100000 in
theorem m_X6_hasPlaces {d : Nat} {t0 : Nat} {i1 : Int32} {i2 : Int32} {h : ab_HP} {r : Int32} (ht0 : (ab_shp t0).1 = 3) (hf : f_X6_hasPlaces t0 i1 i2 h = some r) : ab_MET mX6_hasPlaces (d + 0) 0 0 [va_rf (some t0), .int i1, .int i2] h (ab_Pb r h) := ab_met (by decide +kernel) (by decide +kernel) (Nat.le_of_ble_eq_true rfl) rfl (x_X6_hasPlaces ht0 hf)
set_option maxHeartbeats 4000000 in
set_option maxRecDepth 100000 in
theorem x_X6_deedRefusal {d : Nat} {t0 : Nat} {h : ab_HP} {r : Int32} (ht0 : (ab_shp t0).1 = 3) (hf : f_X6_deedRefusal t0 h = some r) : ab_T mX6_deedRefusal (d + 1) 0 0 0 0 0 [some (va_rf (some t0))] [] h (ab_Pi r h) := by
  unfold f_X6_deedRefusal at hf
  refine ab_aload_n (x := _) (pc2 := 1) dX6_deedRefusal_0 rfl rfl ?_
  obtain ⟨w1, ew1, hf⟩ := ab_bind hf
  refine ab_callV (pc2 := 4) (st := []) rfl ht0 (by decide) (m_X6_isEmpty (d := (d + 0)) ht0 ew1) mf_X6_isEmpty tw_17 tw_16 ts_X6_isEmpty (Or.inl (by decide +kernel)) dX6_deedRefusal_1 rfl (by omega) (Nat.le_refl _) (Nat.le_refl _) rfl (Nat.le_of_ble_eq_true rfl) (fun v u hp => ?_)
  obtain ⟨rfl, rfl, z2⟩ := hp
  show ab_T _ _ _ _ 0 0 4 _ (.int _ :: []) _ _
  refine ab_if_eq (tgt := 12) (pc2 := 7) dX6_deedRefusal_4 (by decide) rfl hf (fun c3 hf => ?_) (fun c3 hf => ?_)
  · refine ab_aload_n (x := _) (pc2 := 13) dX6_deedRefusal_12 rfl rfl ?_
    refine ab_getR (pc2 := 16) rfl ht0 fa_X6_19 dX6_deedRefusal_13 rfl (fun T4 => ?_)
    refine ab_nnul (tgt := 24) (pc2 := 19) dX6_deedRefusal_16 (by decide) rfl hf (fun hq5 hf => ?_) (fun q5 hq5 hf => ?_)
    · refine ab_bipush (pc2 := 21) (v := (-12)) dX6_deedRefusal_19 rfl ab_k_bipush_m12 ?_
      refine ab_goto (tgt := 25) dX6_deedRefusal_21 (by decide) ?_
      cases Option.some.inj hf
      exact ab_retI dX6_deedRefusal_25 (Or.inl rfl) (Nat.le_refl _) (Nat.le_refl _) ⟨rfl, rfl⟩
    · refine ab_iconst (pc2 := 25) (v := 0) dX6_deedRefusal_24 rfl ab_k_iconst_0 ?_
      cases Option.some.inj hf
      exact ab_retI dX6_deedRefusal_25 (Or.inl rfl) (Nat.le_refl _) (Nat.le_refl _) ⟨rfl, rfl⟩
  · refine ab_bipush (pc2 := 9) (v := (-11)) dX6_deedRefusal_7 rfl ab_k_bipush_m11 ?_
    refine ab_goto (tgt := 25) dX6_deedRefusal_9 (by decide) ?_
    cases Option.some.inj hf
    exact ab_retI dX6_deedRefusal_25 (Or.inl rfl) (Nat.le_refl _) (Nat.le_refl _) ⟨rfl, rfl⟩
set_option maxHeartbeats 4000000 in
set_option maxRecDepth 100000 in
theorem m_X6_deedRefusal {d : Nat} {t0 : Nat} {h : ab_HP} {r : Int32} (ht0 : (ab_shp t0).1 = 3) (hf : f_X6_deedRefusal t0 h = some r) : ab_MET mX6_deedRefusal (d + 1) 0 0 [va_rf (some t0)] h (ab_Pi r h) := ab_met (by decide +kernel) (by decide +kernel) (Nat.le_of_ble_eq_true rfl) rfl (x_X6_deedRefusal ht0 hf)
