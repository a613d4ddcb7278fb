set_option maxHeartbeats 4000000 in
set_option maxRecDepth 100000 in
theorem x_X12_init {d : Nat} {t0 : Nat} {h : ab_HP} {r : ab_HP} (ht0 : (ab_shp t0).1 = 5) (hf : f_X12_init t0 h = some r) : ab_T mX12_init (d + 1) 17 1085 0 0 0 [some (va_rf (some t0))] [] h (ab_Pv r) := by
  unfold f_X12_init at hf
  refine ab_aload_n (x := _) (pc2 := 1) dX12_init_0 rfl rfl ?_
  refine ab_objInit (pc2 := 4) rfl tw_15 tw_4 tw_obj (by omega) (Nat.le_of_ble_eq_true rfl) dX12_init_1 rfl ?_
  refine ab_aload_n (x := _) (pc2 := 5) dX12_init_4 rfl rfl ?_
  refine ab_bipush (pc2 := 7) (v := 47) dX12_init_5 rfl ab_k_bipush_47 ?_
  obtain ⟨b1, hf⟩ := ab_guard hf
  have hf := ab_let_e hf
  refine ab_newaI (pc2 := 9) tw_8 b1 (by decide) (by decide) (by decide) (by omega) (by omega) dX12_init_7 rfl ?_
  have hf := ab_let_e hf
  refine ab_putR (pc2 := 12) rfl ht0 fa_X12_9 (ab_ty1 (congrArg Prod.fst b1)) (fun _ => rfl) dX12_init_9 rfl ?_
  refine ab_aload_n (x := _) (pc2 := 13) dX12_init_12 rfl rfl ?_
  refine ab_bipush (pc2 := 15) (v := 47) dX12_init_13 rfl ab_k_bipush_47 ?_
  obtain ⟨b4, hf⟩ := ab_guard hf
  have hf := ab_let_e hf
  refine ab_newaI (pc2 := 17) tw_8 b4 (by decide) (by decide) (by decide) (by omega) (by omega) dX12_init_15 rfl ?_
  have hf := ab_let_e hf
  refine ab_putR (pc2 := 20) rfl ht0 fa_X12_13 (ab_ty1 (congrArg Prod.fst b4)) (fun _ => rfl) dX12_init_17 rfl ?_
  refine ab_aload_n (x := _) (pc2 := 21) dX12_init_20 rfl rfl ?_
  refine ab_bipush (pc2 := 23) (v := 47) dX12_init_21 rfl ab_k_bipush_47 ?_
  obtain ⟨b7, hf⟩ := ab_guard hf
  have hf := ab_let_e hf
  refine ab_newaI (pc2 := 25) tw_8 b7 (by decide) (by decide) (by decide) (by omega) (by omega) dX12_init_23 rfl ?_
  have hf := ab_let_e hf
  refine ab_putR (pc2 := 28) rfl ht0 fa_X12_16 (ab_ty1 (congrArg Prod.fst b7)) (fun _ => rfl) dX12_init_25 rfl ?_
  refine ab_aload_n (x := _) (pc2 := 29) dX12_init_28 rfl rfl ?_
  refine ab_bipush (pc2 := 31) (v := 8) dX12_init_29 rfl ab_k_bipush_8 ?_
  obtain ⟨b10, hf⟩ := ab_guard hf
  have hf := ab_let_e hf
  refine ab_newaI (pc2 := 33) tw_8 b10 (by decide) (by decide) (by decide) (by omega) (by omega) dX12_init_31 rfl ?_
  have hf := ab_let_e hf
  refine ab_putR (pc2 := 36) rfl ht0 fa_X12_19 (ab_ty1 (congrArg Prod.fst b10)) (fun _ => rfl) dX12_init_33 rfl ?_
  refine ab_aload_n (x := _) (pc2 := 37) dX12_init_36 rfl rfl ?_
  refine ab_bipush (pc2 := 39) (v := 8) dX12_init_37 rfl ab_k_bipush_8 ?_
  obtain ⟨b13, hf⟩ := ab_guard hf
  have hf := ab_let_e hf
  refine ab_newaI (pc2 := 41) tw_8 b13 (by decide) (by decide) (by decide) (by omega) (by omega) dX12_init_39 rfl ?_
  have hf := ab_let_e hf
  refine ab_putR (pc2 := 44) rfl ht0 fa_X12_22 (ab_ty1 (congrArg Prod.fst b13)) (fun _ => rfl) dX12_init_41 rfl ?_
  refine ab_aload_n (x := _) (pc2 := 45) dX12_init_44 rfl rfl ?_
  refine ab_bipush (pc2 := 47) (v := 8) dX12_init_45 rfl ab_k_bipush_8 ?_
  obtain ⟨b16, hf⟩ := ab_guard hf
  have hf := ab_let_e hf
  refine ab_newaI (pc2 := 49) tw_8 b16 (by decide) (by decide) (by decide) (by omega) (by omega) dX12_init_47 rfl ?_
  have hf := ab_let_e hf
  refine ab_putR (pc2 := 52) rfl ht0 fa_X12_25 (ab_ty1 (congrArg Prod.fst b16)) (fun _ => rfl) dX12_init_49 rfl ?_
  refine ab_aload_n (x := _) (pc2 := 53) dX12_init_52 rfl rfl ?_
  refine ab_sipush (pc2 := 56) (v := 800) dX12_init_53 rfl ab_k_sipush_800 ?_
  obtain ⟨b19, hf⟩ := ab_guard hf
  have hf := ab_let_e hf
  refine ab_newaI (pc2 := 58) tw_8 b19 (by decide) (by decide) (by decide) (by omega) (by omega) dX12_init_56 rfl ?_
  have hf := ab_let_e hf
  refine ab_putR (pc2 := 61) rfl ht0 fa_X12_28 (ab_ty1 (congrArg Prod.fst b19)) (fun _ => rfl) dX12_init_58 rfl ?_
  refine ab_aload_n (x := _) (pc2 := 62) dX12_init_61 rfl rfl ?_
  refine ab_bipush (pc2 := 64) (v := 8) dX12_init_62 rfl ab_k_bipush_8 ?_
  obtain ⟨b22, hf⟩ := ab_guard hf
  have hf := ab_let_e hf
  refine ab_newaI (pc2 := 66) tw_8 b22 (by decide) (by decide) (by decide) (by omega) (by omega) dX12_init_64 rfl ?_
  have hf := ab_let_e hf
  refine ab_putR (pc2 := 69) rfl ht0 fa_X12_31 (ab_ty1 (congrArg Prod.fst b22)) (fun _ => rfl) dX12_init_66 rfl ?_
  refine ab_aload_n (x := _) (pc2 := 70) dX12_init_69 rfl rfl ?_
  refine ab_bipush (pc2 := 72) (v := 8) dX12_init_70 rfl ab_k_bipush_8 ?_
  obtain ⟨b25, hf⟩ := ab_guard hf
  have hf := ab_let_e hf
  refine ab_newaI (pc2 := 74) tw_8 b25 (by decide) (by decide) (by decide) (by omega) (by omega) dX12_init_72 rfl ?_
  have hf := ab_let_e hf
  refine ab_putR (pc2 := 77) rfl ht0 fa_X12_34 (ab_ty1 (congrArg Prod.fst b25)) (fun _ => rfl) dX12_init_74 rfl ?_
  refine ab_aload_n (x := _) (pc2 := 78) dX12_init_77 rfl rfl ?_
  refine ab_iconst (pc2 := 79) (v := 3) dX12_init_78 rfl ab_k_iconst_3 ?_
  obtain ⟨b28, hf⟩ := ab_guard hf
  have hf := ab_let_e hf
  refine ab_newaI (pc2 := 81) tw_8 b28 (by decide) (by decide) (by decide) (by omega) (by omega) dX12_init_79 rfl ?_
  have hf := ab_let_e hf
  refine ab_putR (pc2 := 84) rfl ht0 fa_X12_37 (ab_ty1 (congrArg Prod.fst b28)) (fun _ => rfl) dX12_init_81 rfl ?_
  refine ab_aload_n (x := _) (pc2 := 85) dX12_init_84 rfl rfl ?_
  refine ab_bipush (pc2 := 87) (v := 16) dX12_init_85 rfl ab_k_bipush_16 ?_
  obtain ⟨b31, hf⟩ := ab_guard hf
  have hf := ab_let_e hf
  refine ab_newaI (pc2 := 89) tw_8 b31 (by decide) (by decide) (by decide) (by omega) (by omega) dX12_init_87 rfl ?_
  have hf := ab_let_e hf
  refine ab_putR (pc2 := 92) rfl ht0 fa_X12_40 (ab_ty1 (congrArg Prod.fst b31)) (fun _ => rfl) dX12_init_89 rfl ?_
  refine ab_aload_n (x := _) (pc2 := 93) dX12_init_92 rfl rfl ?_
  refine ab_bipush (pc2 := 95) (v := 16) dX12_init_93 rfl ab_k_bipush_16 ?_
  obtain ⟨b34, hf⟩ := ab_guard hf
  have hf := ab_let_e hf
  refine ab_newaI (pc2 := 97) tw_8 b34 (by decide) (by decide) (by decide) (by omega) (by omega) dX12_init_95 rfl ?_
  have hf := ab_let_e hf
  refine ab_putR (pc2 := 100) rfl ht0 fa_X12_43 (ab_ty1 (congrArg Prod.fst b34)) (fun _ => rfl) dX12_init_97 rfl ?_
  refine ab_aload_n (x := _) (pc2 := 101) dX12_init_100 rfl rfl ?_
  refine ab_bipush (pc2 := 103) (v := 16) dX12_init_101 rfl ab_k_bipush_16 ?_
  obtain ⟨b37, hf⟩ := ab_guard hf
  have hf := ab_let_e hf
  refine ab_newaI (pc2 := 105) tw_8 b37 (by decide) (by decide) (by decide) (by omega) (by omega) dX12_init_103 rfl ?_
  have hf := ab_let_e hf
  refine ab_putR (pc2 := 108) rfl ht0 fa_X12_46 (ab_ty1 (congrArg Prod.fst b37)) (fun _ => rfl) dX12_init_105 rfl ?_
  refine ab_aload_n (x := _) (pc2 := 109) dX12_init_108 rfl rfl ?_
  refine ab_bipush (pc2 := 111) (v := 16) dX12_init_109 rfl ab_k_bipush_16 ?_
  obtain ⟨b40, hf⟩ := ab_guard hf
  have hf := ab_let_e hf
  refine ab_newaI (pc2 := 113) tw_8 b40 (by decide) (by decide) (by decide) (by omega) (by omega) dX12_init_111 rfl ?_
  have hf := ab_let_e hf
  refine ab_putR (pc2 := 116) rfl ht0 fa_X12_49 (ab_ty1 (congrArg Prod.fst b40)) (fun _ => rfl) dX12_init_113 rfl ?_
  refine ab_aload_n (x := _) (pc2 := 117) dX12_init_116 rfl rfl ?_
  refine ab_bipush (pc2 := 119) (v := 16) dX12_init_117 rfl ab_k_bipush_16 ?_
  obtain ⟨b43, hf⟩ := ab_guard hf
  have hf := ab_let_e hf
  refine ab_newaI (pc2 := 121) tw_8 b43 (by decide) (by decide) (by decide) (by omega) (by omega) dX12_init_119 rfl ?_
  have hf := ab_let_e hf
  refine ab_putR (pc2 := 124) rfl ht0 fa_X12_52 (ab_ty1 (congrArg Prod.fst b43)) (fun _ => rfl) dX12_init_121 rfl ?_
  refine ab_aload_n (x := _) (pc2 := 125) dX12_init_124 rfl rfl ?_
  refine ab_iconst (pc2 := 126) (v := 5) dX12_init_125 rfl ab_k_iconst_5 ?_
  obtain ⟨b46, hf⟩ := ab_guard hf
  have hf := ab_let_e hf
  refine ab_newaI (pc2 := 128) tw_8 b46 (by decide) (by decide) (by decide) (by omega) (by omega) dX12_init_126 rfl ?_
  have hf := ab_let_e hf
  refine ab_putR (pc2 := 131) rfl ht0 fa_X12_55 (ab_ty1 (congrArg Prod.fst b46)) (fun _ => rfl) dX12_init_128 rfl ?_
  refine ab_aload_n (x := _) (pc2 := 132) dX12_init_131 rfl rfl ?_
  refine ab_bipush (pc2 := 134) (v := 16) dX12_init_132 rfl ab_k_bipush_16 ?_
  obtain ⟨b49, hf⟩ := ab_guard hf
  have hf := ab_let_e hf
  refine ab_newaI (pc2 := 136) tw_8 b49 (by decide) (by decide) (by decide) (by omega) (by omega) dX12_init_134 rfl ?_
  have hf := ab_let_e hf
  refine ab_putR (pc2 := 139) rfl ht0 fa_X12_58 (ab_ty1 (congrArg Prod.fst b49)) (fun _ => rfl) dX12_init_136 rfl ?_
  refine ab_aload_n (x := _) (pc2 := 140) dX12_init_139 rfl rfl ?_
  refine ab_getR (pc2 := 143) rfl ht0 fa_X12_9 dX12_init_140 rfl (fun T52 => ?_)
  refine ab_iconst (pc2 := 144) (v := 1) dX12_init_143 rfl ab_k_iconst_1 ?_
  refine ab_bipush (pc2 := 146) (v := 100) dX12_init_144 rfl ab_k_bipush_100 ?_
  obtain ⟨q53, hq53, hf⟩ := ab_bind hf
  obtain ⟨b54, hf⟩ := ab_guard hf
  have hf := ab_let_e hf
  refine ab_iast (pc2 := 147) hq53 (T52 q53 hq53) (ab_in_vp b54) dX12_init_146 rfl ?_
  refine ab_aload_n (x := _) (pc2 := 148) dX12_init_147 rfl rfl ?_
  refine ab_getR (pc2 := 151) rfl ht0 fa_X12_9 dX12_init_148 rfl (fun T56 => ?_)
  refine ab_iconst (pc2 := 152) (v := 4) dX12_init_151 rfl ab_k_iconst_4 ?_
  refine ab_bipush (pc2 := 154) (v := 10) dX12_init_152 rfl ab_k_bipush_10 ?_
  obtain ⟨q57, hq57, hf⟩ := ab_bind hf
  obtain ⟨b58, hf⟩ := ab_guard hf
  have hf := ab_let_e hf
  refine ab_iast (pc2 := 155) hq57 (T56 q57 hq57) (ab_in_vp b58) dX12_init_154 rfl ?_
  cases Option.some.inj hf
  exact ab_retV dX12_init_155 rfl (by omega) (by omega) ⟨rfl, rfl⟩
set_option maxHeartbeats 4000000 in
set_option maxRecDepth 100000 in
theorem m_X12_init {d : Nat} {t0 : Nat} {h : ab_HP} {r : ab_HP} (ht0 : (ab_shp t0).1 = 5) (hf : f_X12_init t0 h = some r) : ab_MET mX12_init (d + 1) 17 1085 [va_rf (some t0)] h (ab_Pv r) := ab_met (by decide +kernel) (by decide +kernel) (Nat.le_of_ble_eq_true rfl) rfl (x_X12_init ht0 hf)
set_option maxHeartbeats 4000000 in
set_option maxRecDepth 100000 in
theorem x_X12_isIn {d : Nat} {i0 : Int64} {i2 : Int64} {i4 : Int64} {h : ab_HP} {r : Int32}  (hf : f_X12_isIn i0 i2 i4 h = some r) : ab_T mX12_isIn (d + 0) 0 0 0 0 0 [some (.long i0), none, some (.long i2), none, some (.long i4), none] [] h (ab_Pb r h) := by
  unfold f_X12_isIn at hf
  refine ab_lload_n (pc2 := 1) dX12_isIn_0 rfl rfl ?_
  refine ab_lload_n (pc2 := 2) dX12_isIn_1 rfl rfl ?_
  refine ab_lcmp (pc2 := 3) dX12_isIn_2 rfl ?_
  refine ab_if_lt (tgt := 17) (pc2 := 6) dX12_isIn_3 (by decide) rfl hf (fun c1 hf => ?_) (fun c1 hf => ?_)
  · refine ab_iconst (pc2 := 18) (v := 0) dX12_isIn_17 rfl ab_k_iconst_0 ?_
    cases Option.some.inj hf
    exact ab_retI dX12_isIn_18 (Or.inr ⟨rfl, (Or.inl rfl)⟩) (Nat.le_refl _) (Nat.le_refl _) ⟨rfl, rfl, (Or.inl rfl)⟩
  · refine ab_lload_n (pc2 := 7) dX12_isIn_6 rfl rfl ?_
    refine ab_lload (pc2 := 9) dX12_isIn_7 rfl rfl ?_
    refine ab_lcmp (pc2 := 10) dX12_isIn_9 rfl ?_
    refine ab_if_gt (tgt := 17) (pc2 := 13) dX12_isIn_10 (by decide) rfl hf (fun c2 hf => ?_) (fun c2 hf => ?_)
    · refine ab_iconst (pc2 := 18) (v := 0) dX12_isIn_17 rfl ab_k_iconst_0 ?_
      cases Option.some.inj hf
      exact ab_retI dX12_isIn_18 (Or.inr ⟨rfl, (Or.inl rfl)⟩) (Nat.le_refl _) (Nat.le_refl _) ⟨rfl, rfl, (Or.inl rfl)⟩
    · refine ab_iconst (pc2 := 14) (v := 1) dX12_isIn_13 rfl ab_k_iconst_1 ?_
      refine ab_goto (tgt := 18) dX12_isIn_14 (by decide) ?_
      cases Option.some.inj hf
      exact ab_retI dX12_isIn_18 (Or.inr ⟨rfl, (Or.inr rfl)⟩) (Nat.le_refl _) (Nat.le_refl _) ⟨rfl, rfl, (Or.inr rfl)⟩
set_option maxHeartbeats 4000000 in
set_option maxRecDepth 100000 in
theorem m_X12_isIn {d : Nat} {i0 : Int64} {i2 : Int64} {i4 : Int64} {h : ab_HP} {r : Int32}  (hf : f_X12_isIn i0 i2 i4 h = some r) : ab_MET mX12_isIn (d + 0) 0 0 [.long i0, .long i2, .long i4] h (ab_Pb r h) := ab_met (by decide +kernel) (by decide +kernel) (Nat.le_of_ble_eq_true rfl) rfl (x_X12_isIn  hf)
set_option maxHeartbeats 4000000 in
set_option maxRecDepth 100000 in
theorem x_X12_isShelf {d : Nat} {i0 : Int32} {h : ab_HP} {r : Int32}  (hf : f_X12_isShelf i0 h = some r) : ab_T mX12_isShelf (d + 1) 0 0 0 0 0 [some (.int i0)] [] h (ab_Pb r h) := by
  unfold f_X12_isShelf at hf
  refine ab_iload_n (pc2 := 1) dX12_isShelf_0 rfl rfl ?_
  refine ab_i2l (pc2 := 2) dX12_isShelf_1 rfl ?_
  refine ab_lconst (pc2 := 3) (v := 0) dX12_isShelf_2 rfl rfl ?_
  refine ab_ldc2 (pc2 := 6) (v := 7) dX12_isShelf_3 rfl tw_100 ?_
  obtain ⟨w1, ew1, hf⟩ := ab_bind hf
  refine ab_callS (pc2 := 9) (st := []) (m_X12_isIn (d := (d + 0)) ew1) mf_X12_isIn tw_101 tw_102 dX12_isShelf_6 rfl (by omega) (Nat.le_refl _) (Nat.le_refl _) rfl (Nat.le_of_ble_eq_true rfl) (fun v u hp => ?_)
  obtain ⟨rfl, rfl, z2⟩ := hp
  show ab_T _ _ _ _ 0 0 9 _ (.int _ :: []) _ _
  cases Option.some.inj hf
  exact ab_retI dX12_isShelf_9 (Or.inr ⟨rfl, z2⟩) (Nat.le_refl _) (Nat.le_refl _) ⟨rfl, rfl, z2⟩
set_option maxHeartbeats 4000000 in
set_option maxRecDepth 100000 in
theorem m_X12_isShelf {d : Nat} {i0 : Int32} {h : ab_HP} {r : Int32}  (hf : f_X12_isShelf i0 h = some r) : ab_MET mX12_isShelf (d + 1) 0 0 [.int i0] h (ab_Pb r h) := ab_met (by decide +kernel) (by decide +kernel) (Nat.le_of_ble_eq_true rfl) rfl (x_X12_isShelf  hf)
set_option maxHeartbeats 4000000 in
set_option maxRecDepth 100000 in
theorem x_X12_wrongRow {d : Nat} {t0 : Nat} {i1 : Int32} {i2 : Int32} {h : ab_HP} {r : Int32} (ht0 : (ab_shp t0).1 = 5) (hf : f_X12_wrongRow t0 i1 i2 h = some r) : ab_T mX12_wrongRow (d + 2) 0 0 0 0 0 [some (va_rf (some t0)), some (.int i1), some (.int i2)] [] h (ab_Pi r h) := by
  unfold f_X12_wrongRow at hf
  refine ab_iload_n (pc2 := 1) dX12_wrongRow_0 rfl rfl ?_
  obtain ⟨w1, ew1, hf⟩ := ab_bind hf
  refine ab_callS (pc2 := 4) (st := []) (m_X12_isShelf (d := (d + 0)) ew1) mf_X12_isShelf tw_103 tw_104 dX12_wrongRow_1 rfl (by omega) (Nat.le_refl _) (Nat.le_refl _) rfl (Nat.le_of_ble_eq_true rfl) (fun v u hp => ?_)
  obtain ⟨rfl, rfl, z2⟩ := hp
  show ab_T _ _ _ _ 0 0 4 _ (.int _ :: []) _ _
  refine ab_if_ne (tgt := 11) (pc2 := 7) dX12_wrongRow_4 (by decide) rfl hf (fun c3 hf => ?_) (fun c3 hf => ?_)
  · refine ab_aload_n (x := _) (pc2 := 12) dX12_wrongRow_11 rfl rfl ?_
    refine ab_getR (pc2 := 15) rfl ht0 fa_X12_19 dX12_wrongRow_12 rfl (fun T4 => ?_)
    refine ab_iload_n (pc2 := 16) dX12_wrongRow_15 rfl rfl ?_
    obtain ⟨q5, hq5, hf⟩ := ab_bind hf
    obtain ⟨b6, hf⟩ := ab_guard hf
    refine ab_iald (pc2 := 17) hq5 (T4 q5 hq5) (ab_in_vp b6) dX12_wrongRow_16 rfl ?_
    refine ab_if_ne (tgt := 25) (pc2 := 20) dX12_wrongRow_17 (by decide) rfl hf (fun c7 hf => ?_) (fun c7 hf => ?_)
    · refine ab_aload_n (x := _) (pc2 := 26) dX12_wrongRow_25 rfl rfl ?_
      refine ab_getR (pc2 := 29) rfl ht0 fa_X12_19 dX12_wrongRow_26 rfl (fun T8 => ?_)
      refine ab_iload_n (pc2 := 30) dX12_wrongRow_29 rfl rfl ?_
      obtain ⟨q9, hq9, hf⟩ := ab_bind hf
      obtain ⟨b10, hf⟩ := ab_guard hf
      refine ab_iald (pc2 := 31) hq9 (T8 q9 hq9) (ab_in_vp b10) dX12_wrongRow_30 rfl ?_
      refine ab_iconst (pc2 := 32) (v := 2) dX12_wrongRow_31 rfl ab_k_iconst_2 ?_
      refine ab_icmp_ne (tgt := 49) (pc2 := 35) dX12_wrongRow_32 (by decide) rfl hf (fun c11 hf => ?_) (fun c11 hf => ?_)
      · refine ab_bipush (pc2 := 51) (v := (-12)) dX12_wrongRow_49 rfl ab_k_bipush_m12 ?_
        refine ab_goto (tgt := 55) dX12_wrongRow_51 (by decide) ?_
        cases Option.some.inj hf
        exact ab_retI dX12_wrongRow_55 (Or.inl rfl) (Nat.le_refl _) (Nat.le_refl _) ⟨rfl, rfl⟩
      · refine ab_iload_n (pc2 := 36) dX12_wrongRow_35 rfl rfl ?_
        refine ab_if_lt (tgt := 54) (pc2 := 39) dX12_wrongRow_36 (by decide) rfl hf (fun c12 hf => ?_) (fun c12 hf => ?_)
        · refine ab_iconst (pc2 := 55) (v := 0) dX12_wrongRow_54 rfl ab_k_iconst_0 ?_
          cases Option.some.inj hf
          exact ab_retI dX12_wrongRow_55 (Or.inl rfl) (Nat.le_refl _) (Nat.le_refl _) ⟨rfl, rfl⟩
        · refine ab_aload_n (x := _) (pc2 := 40) dX12_wrongRow_39 rfl rfl ?_
          refine ab_getR (pc2 := 43) rfl ht0 fa_X12_22 dX12_wrongRow_40 rfl (fun T13 => ?_)
          refine ab_iload_n (pc2 := 44) dX12_wrongRow_43 rfl rfl ?_
          obtain ⟨q14, hq14, hf⟩ := ab_bind hf
          obtain ⟨b15, hf⟩ := ab_guard hf
          refine ab_iald (pc2 := 45) hq14 (T13 q14 hq14) (ab_in_vp b15) dX12_wrongRow_44 rfl ?_
          refine ab_iload_n (pc2 := 46) dX12_wrongRow_45 rfl rfl ?_
          refine ab_icmp_eq (tgt := 54) (pc2 := 49) dX12_wrongRow_46 (by decide) rfl hf (fun c16 hf => ?_) (fun c16 hf => ?_)
          · refine ab_iconst (pc2 := 55) (v := 0) dX12_wrongRow_54 rfl ab_k_iconst_0 ?_
            cases Option.some.inj hf
            exact ab_retI dX12_wrongRow_55 (Or.inl rfl) (Nat.le_refl _) (Nat.le_refl _) ⟨rfl, rfl⟩
          · refine ab_bipush (pc2 := 51) (v := (-12)) dX12_wrongRow_49 rfl ab_k_bipush_m12 ?_
            refine ab_goto (tgt := 55) dX12_wrongRow_51 (by decide) ?_
            cases Option.some.inj hf
            exact ab_retI dX12_wrongRow_55 (Or.inl rfl) (Nat.le_refl _) (Nat.le_refl _) ⟨rfl, rfl⟩
    · refine ab_bipush (pc2 := 22) (v := (-11)) dX12_wrongRow_20 rfl ab_k_bipush_m11 ?_
      refine ab_goto (tgt := 55) dX12_wrongRow_22 (by decide) ?_
      cases Option.some.inj hf
      exact ab_retI dX12_wrongRow_55 (Or.inl rfl) (Nat.le_refl _) (Nat.le_refl _) ⟨rfl, rfl⟩
  · refine ab_iconst (pc2 := 8) (v := (-1)) dX12_wrongRow_7 rfl ab_k_iconst_m1 ?_
    refine ab_goto (tgt := 55) dX12_wrongRow_8 (by decide) ?_
    cases Option.some.inj hf
    exact ab_retI dX12_wrongRow_55 (Or.inl rfl) (Nat.le_refl _) (Nat.le_refl _) ⟨rfl, rfl⟩
set_option maxHeartbeats 4000000 in
set_option maxRecDepth 100000 in
theorem m_X12_wrongRow {d : Nat} {t0 : Nat} {i1 : Int32} {i2 : Int32} {h : ab_HP} {r : Int32} (ht0 : (ab_shp t0).1 = 5) (hf : f_X12_wrongRow t0 i1 i2 h = some r) : ab_MET mX12_wrongRow (d + 2) 0 0 [va_rf (some t0), .int i1, .int i2] h (ab_Pi r h) := ab_met (by decide +kernel) (by decide +kernel) (Nat.le_of_ble_eq_true rfl) rfl (x_X12_wrongRow ht0 hf)
set_option maxHeartbeats 4000000 in
set_option maxRecDepth 100000 in
theorem x_X12_here {d : Nat} {t0 : Nat} {h : ab_HP} {r : Int32} (ht0 : (ab_shp t0).1 = 5) (hf : f_X12_here t0 h = some r) : ab_T mX12_here (d + 0) 0 0 0 0 0 [some (va_rf (some t0))] [] h (ab_Pi r h) := by
  unfold f_X12_here at hf
  refine ab_aload_n (x := _) (pc2 := 1) dX12_here_0 rfl rfl ?_
  refine ab_getI (pc2 := 4) rfl ht0 fa_X12_73 (by decide) dX12_here_1 rfl ?_
  refine ab_aload_n (x := _) (pc2 := 5) dX12_here_4 rfl rfl ?_
  refine ab_getI (pc2 := 8) rfl ht0 fa_X12_76 (by decide) dX12_here_5 rfl ?_
  refine ab_icmp_ge (tgt := 28) (pc2 := 11) dX12_here_8 (by decide) rfl hf (fun c1 hf => ?_) (fun c1 hf => ?_)
  · refine ab_sipush (pc2 := 31) (v := (-1000)) dX12_here_28 rfl ab_k_sipush_m1000 ?_
    cases Option.some.inj hf
    exact ab_retI dX12_here_31 (Or.inl rfl) (Nat.le_refl _) (Nat.le_refl _) ⟨rfl, rfl⟩
  · refine ab_aload_n (x := _) (pc2 := 12) dX12_here_11 rfl rfl ?_
    refine ab_getR (pc2 := 15) rfl ht0 fa_X12_28 dX12_here_12 rfl (fun T2 => ?_)
    refine ab_aload_n (x := _) (pc2 := 16) dX12_here_15 rfl rfl ?_
    refine ab_getI (pc2 := 19) rfl ht0 fa_X12_79 (by decide) dX12_here_16 rfl ?_
    refine ab_aload_n (x := _) (pc2 := 20) dX12_here_19 rfl rfl ?_
    refine ab_getI (pc2 := 23) rfl ht0 fa_X12_73 (by decide) dX12_here_20 rfl ?_
    refine ab_iadd (pc2 := 24) dX12_here_23 rfl ?_
    obtain ⟨q3, hq3, hf⟩ := ab_bind hf
    obtain ⟨b4, hf⟩ := ab_guard hf
    refine ab_iald (pc2 := 25) hq3 (T2 q3 hq3) (ab_in_vp b4) dX12_here_24 rfl ?_
    refine ab_goto (tgt := 31) dX12_here_25 (by decide) ?_
    cases Option.some.inj hf
    exact ab_retI dX12_here_31 (Or.inl rfl) (Nat.le_refl _) (Nat.le_refl _) ⟨rfl, rfl⟩
set_option maxHeartbeats 4000000 in
set_option maxRecDepth 100000 in
theorem m_X12_here {d : Nat} {t0 : Nat} {h : ab_HP} {r : Int32} (ht0 : (ab_shp t0).1 = 5) (hf : f_X12_here t0 h = some r) : ab_MET mX12_here (d + 0) 0 0 [va_rf (some t0)] h (ab_Pi r h) := ab_met (by decide +kernel) (by decide +kernel) (Nat.le_of_ble_eq_true rfl) rfl (x_X12_here ht0 hf)
set_option maxHeartbeats 4000000 in
set_option maxRecDepth 100000 in
theorem x_X12_isDigit {d : Nat} {t0 : Nat} {h : ab_HP} {r : Int32} (ht0 : (ab_shp t0).1 = 5) (hf : f_X12_isDigit t0 h = some r) : ab_T mX12_isDigit (d + 1) 0 0 0 0 0 [some (va_rf (some t0))] [] h (ab_Pb r h) := by
  unfold f_X12_isDigit at hf
  refine ab_aload_n (x := _) (pc2 := 1) dX12_isDigit_0 rfl rfl ?_
  obtain ⟨w1, ew1, hf⟩ := ab_bind hf
  refine ab_callV (pc2 := 4) (st := []) rfl ht0 (by decide) (m_X12_here (d := (d + 0)) ht0 ew1) mf_X12_here tw_106 tw_105 ts_X12_here (Or.inl (by decide +kernel)) dX12_isDigit_1 rfl (by omega) (Nat.le_refl _) (Nat.le_refl _) rfl (Nat.le_of_ble_eq_true rfl) (fun v u hp => ?_)
  obtain ⟨rfl, rfl⟩ := hp
  show ab_T _ _ _ _ 0 0 4 _ (.int _ :: []) _ _
  refine ab_i2l (pc2 := 5) dX12_isDigit_4 rfl ?_
  refine ab_ldc2 (pc2 := 8) (v := 48) dX12_isDigit_5 rfl tw_107 ?_
  refine ab_ldc2 (pc2 := 11) (v := 57) dX12_isDigit_8 rfl tw_108 ?_
  obtain ⟨w2, ew2, hf⟩ := ab_bind hf
  refine ab_callS (pc2 := 14) (st := []) (m_X12_isIn (d := (d + 0)) ew2) mf_X12_isIn tw_101 tw_102 dX12_isDigit_11 rfl (by omega) (Nat.le_refl _) (Nat.le_refl _) rfl (Nat.le_of_ble_eq_true rfl) (fun v u hp => ?_)
  obtain ⟨rfl, rfl, z3⟩ := hp
  show ab_T _ _ _ _ 0 0 14 _ (.int _ :: []) _ _
  cases Option.some.inj hf
  exact ab_retI dX12_isDigit_14 (Or.inr ⟨rfl, z3⟩) (Nat.le_refl _) (Nat.le_refl _) ⟨rfl, rfl, z3⟩
set_option maxHeartbeats 4000000 in
set_option maxRecDepth 100000 in
theorem m_X12_isDigit {d : Nat} {t0 : Nat} {h : ab_HP} {r : Int32} (ht0 : (ab_shp t0).1 = 5) (hf : f_X12_isDigit t0 h = some r) : ab_MET mX12_isDigit (d + 1) 0 0 [va_rf (some t0)] h (ab_Pb r h) := ab_met (by decide +kernel) (by decide +kernel) (Nat.le_of_ble_eq_true rfl) rfl (x_X12_isDigit ht0 hf)
set_option maxHeartbeats 4000000 in
set_option maxRecDepth 100000 in
theorem x_X12_readsNumber_b74 {d : Nat} {t0 : Nat} {i2 : Int32} {h : ab_HP} {r : (Int32 × ab_HP)} (ht0 : (ab_shp t0).1 = 5) (hf : f_X12_readsNumber_b74 t0 i2 h = some r) : ab_T mX12_readsNumber (d + 2) 0 0 0 0 74 [some (va_rf (some t0)), none, some (.int i2), none] [] h (ab_Pb r.1 r.2) := by
  unfold f_X12_readsNumber_b74 at hf
  refine ab_aload_n (x := _) (pc2 := 75) dX12_readsNumber_74 rfl rfl ?_
  refine ab_getR (pc2 := 78) rfl ht0 fa_X12_37 dX12_readsNumber_75 rfl (fun T14 => ?_)
  refine ab_aload_n (x := _) (pc2 := 79) dX12_readsNumber_78 rfl rfl ?_
  refine ab_getI (pc2 := 82) rfl ht0 fa_X12_94 (by decide) dX12_readsNumber_79 rfl ?_
  refine ab_iload_n (pc2 := 83) dX12_readsNumber_82 rfl rfl ?_
  obtain ⟨q15, hq15, hf⟩ := ab_bind hf
  obtain ⟨b16, hf⟩ := ab_guard hf
  have hf := ab_let_e hf
  refine ab_iast (pc2 := 84) hq15 (T14 q15 hq15) (ab_in_vp b16) dX12_readsNumber_83 rfl ?_
  refine ab_aload_n (x := _) (pc2 := 85) dX12_readsNumber_84 rfl rfl ?_
  refine ab_dup (pc2 := 86) dX12_readsNumber_85 rfl (ab_rf1 _) ?_
  refine ab_getI (pc2 := 89) rfl ht0 fa_X12_94 (by decide) dX12_readsNumber_86 rfl ?_
  refine ab_iconst (pc2 := 90) (v := 1) dX12_readsNumber_89 rfl ab_k_iconst_1 ?_
  refine ab_iadd (pc2 := 91) dX12_readsNumber_90 rfl ?_
  have hf := ab_let_e hf
  refine ab_putI (pc2 := 94) rfl ht0 fa_X12_94 (Or.inl rfl) (fun z => by cases z) dX12_readsNumber_91 rfl ?_
  refine ab_iconst (pc2 := 95) (v := 1) dX12_readsNumber_94 rfl ab_k_iconst_1 ?_
  cases Option.some.inj hf
  exact ab_retI dX12_readsNumber_95 (Or.inr ⟨rfl, (Or.inr rfl)⟩) (Nat.le_refl _) (Nat.le_refl _) ⟨rfl, rfl, (Or.inr rfl)⟩
set_option maxHeartbeats 4000000 in
set_option maxRecDepth 100000 in
theorem x_X12_readsNumber_l29 {d : Nat} {t0 : Nat} {r : (Int32 × ab_HP)} (ht0 : (ab_shp t0).1 = 5) : ∀ (n : Nat) (i1 : Int32) (i2 : Int32) (i3 : Int32) (h : ab_HP), f_X12_readsNumber_l29 t0 n i1 i2 i3 h = some r → ab_T mX12_readsNumber (d + 2) 0 0 0 0 29 [some (va_rf (some t0)), some (.int i1), some (.int i2), some (.int i3)] [] h (ab_Pb r.1 r.2) := by
  intro n
  induction n with
  | zero =>
    intro i1 i2 i3 h hf
    rw [f_X12_readsNumber_l29] at hf
    cases hf
  | succ n ih =>
    intro i1 i2 i3 h hf
    rw [f_X12_readsNumber_l29] at hf
    refine ab_iload_n (pc2 := 30) dX12_readsNumber_29 rfl rfl ?_
    refine ab_iload_n (pc2 := 31) dX12_readsNumber_30 rfl rfl ?_
    refine ab_icmp_ge (tgt := 74) (pc2 := 34) dX12_readsNumber_31 (by decide) rfl hf (fun c6 hf => ?_) (fun c6 hf => ?_)
    · exact ab_weak (x_X12_readsNumber_b74 ht0 hf) (ab_leS (ab_leN (ab_leS (ab_leN ab_le0))))
    · refine ab_iload_n (pc2 := 35) dX12_readsNumber_34 rfl rfl ?_
      refine ab_if_le (tgt := 74) (pc2 := 38) dX12_readsNumber_35 (by decide) rfl hf (fun c7 hf => ?_) (fun c7 hf => ?_)
      · exact ab_weak (x_X12_readsNumber_b74 ht0 hf) (ab_leS (ab_leN (ab_leS (ab_leN ab_le0))))
      · refine ab_aload_n (x := _) (pc2 := 39) dX12_readsNumber_38 rfl rfl ?_
        obtain ⟨w8, ew8, hf⟩ := ab_bind hf
        refine ab_callV (pc2 := 42) (st := []) rfl ht0 (by decide) (m_X12_isDigit (d := (d + 0)) ht0 ew8) mf_X12_isDigit tw_110 tw_109 ts_X12_isDigit (Or.inl (by decide +kernel)) dX12_readsNumber_39 rfl (by omega) (Nat.le_refl _) (Nat.le_refl _) rfl (Nat.le_of_ble_eq_true rfl) (fun v u hp => ?_)
        obtain ⟨rfl, rfl, z9⟩ := hp
        show ab_T _ _ _ _ 0 0 42 _ (.int _ :: []) _ _
        refine ab_if_eq (tgt := 74) (pc2 := 45) dX12_readsNumber_42 (by decide) rfl hf (fun c10 hf => ?_) (fun c10 hf => ?_)
        · exact ab_weak (x_X12_readsNumber_b74 ht0 hf) (ab_leS (ab_leN (ab_leS (ab_leN ab_le0))))
        · refine ab_bipush (pc2 := 47) (v := 10) dX12_readsNumber_45 rfl ab_k_bipush_10 ?_
          refine ab_iload_n (pc2 := 48) dX12_readsNumber_47 rfl rfl ?_
          refine ab_imul (pc2 := 49) dX12_readsNumber_48 rfl ?_
          refine ab_aload_n (x := _) (pc2 := 50) dX12_readsNumber_49 rfl rfl ?_
          obtain ⟨w11, ew11, hf⟩ := ab_bind hf
          refine ab_callV (pc2 := 53) (st := [_]) rfl ht0 (by decide) (m_X12_here (d := (d + 1)) ht0 ew11) mf_X12_here tw_106 tw_105 ts_X12_here (Or.inl (by decide +kernel)) dX12_readsNumber_50 rfl (by omega) (Nat.le_refl _) (Nat.le_refl _) rfl (Nat.le_of_ble_eq_true rfl) (fun v u hp => ?_)
          obtain ⟨rfl, rfl⟩ := hp
          show ab_T _ _ _ _ 0 0 53 _ (.int _ :: [_]) _ _
          refine ab_iadd (pc2 := 54) dX12_readsNumber_53 rfl ?_
          refine ab_bipush (pc2 := 56) (v := 48) dX12_readsNumber_54 rfl ab_k_bipush_48 ?_
          refine ab_isub (pc2 := 57) dX12_readsNumber_56 rfl ?_
          have hf := ab_let_e hf
          refine ab_istore_n (pc2 := 58) (lo2 := [some (va_rf _), some (.int _), some (.int _), some (.int _)]) dX12_readsNumber_57 rfl (by decide) rfl ?_
          refine ab_aload_n (x := _) (pc2 := 59) dX12_readsNumber_58 rfl rfl ?_
          refine ab_dup (pc2 := 60) dX12_readsNumber_59 rfl (ab_rf1 _) ?_
          refine ab_getI (pc2 := 63) rfl ht0 fa_X12_73 (by decide) dX12_readsNumber_60 rfl ?_
          refine ab_iconst (pc2 := 64) (v := 1) dX12_readsNumber_63 rfl ab_k_iconst_1 ?_
          refine ab_iadd (pc2 := 65) dX12_readsNumber_64 rfl ?_
          have hf := ab_let_e hf
          refine ab_putI (pc2 := 68) rfl ht0 fa_X12_73 (Or.inl rfl) (fun z => by cases z) dX12_readsNumber_65 rfl ?_
          refine ab_iinc (pc2 := 71) (v := _ + 1) (lo2 := [some (va_rf _), some (.int _), some (.int _), some (.int _)]) dX12_readsNumber_68 rfl rfl rfl (by decide) rfl ?_
          refine ab_goto (tgt := 29) dX12_readsNumber_71 (by decide) ?_
          exact ab_weak (ih _ _ _ _ hf) (ab_leS (ab_leS (ab_leS (ab_leS ab_le0))))
set_option maxHeartbeats 4000000 in
set_option maxRecDepth 100000 in
theorem x_X12_readsNumber {d : Nat} {t0 : Nat} {i1 : Int32} {h : ab_HP} {r : (Int32 × ab_HP)} (ht0 : (ab_shp t0).1 = 5) (hf : f_X12_readsNumber t0 i1 h = some r) : ab_T mX12_readsNumber (d + 2) 0 0 0 0 0 [some (va_rf (some t0)), some (.int i1), none, none] [] h (ab_Pb r.1 r.2) := by
  unfold f_X12_readsNumber at hf
  refine ab_aload_n (x := _) (pc2 := 1) dX12_readsNumber_0 rfl rfl ?_
  obtain ⟨w1, ew1, hf⟩ := ab_bind hf
  refine ab_callV (pc2 := 4) (st := []) rfl ht0 (by decide) (m_X12_isDigit (d := (d + 0)) ht0 ew1) mf_X12_isDigit tw_110 tw_109 ts_X12_isDigit (Or.inl (by decide +kernel)) dX12_readsNumber_1 rfl (by omega) (Nat.le_refl _) (Nat.le_refl _) rfl (Nat.le_of_ble_eq_true rfl) (fun v u hp => ?_)
  obtain ⟨rfl, rfl, z2⟩ := hp
  show ab_T _ _ _ _ 0 0 4 _ (.int _ :: []) _ _
  refine ab_if_ne (tgt := 9) (pc2 := 7) dX12_readsNumber_4 (by decide) rfl hf (fun c3 hf => ?_) (fun c3 hf => ?_)
  · refine ab_aload_n (x := _) (pc2 := 10) dX12_readsNumber_9 rfl rfl ?_
    obtain ⟨w4, ew4, hf⟩ := ab_bind hf
    refine ab_callV (pc2 := 13) (st := []) rfl ht0 (by decide) (m_X12_here (d := (d + 1)) ht0 ew4) mf_X12_here tw_106 tw_105 ts_X12_here (Or.inl (by decide +kernel)) dX12_readsNumber_10 rfl (by omega) (Nat.le_refl _) (Nat.le_refl _) rfl (Nat.le_of_ble_eq_true rfl) (fun v u hp => ?_)
    obtain ⟨rfl, rfl⟩ := hp
    show ab_T _ _ _ _ 0 0 13 _ (.int _ :: []) _ _
    refine ab_bipush (pc2 := 15) (v := 48) dX12_readsNumber_13 rfl ab_k_bipush_48 ?_
    refine ab_isub (pc2 := 16) dX12_readsNumber_15 rfl ?_
    refine ab_istore_n (pc2 := 17) (lo2 := [some (va_rf _), some (.int _), some (.int _), none]) dX12_readsNumber_16 rfl (by decide) rfl ?_
    refine ab_aload_n (x := _) (pc2 := 18) dX12_readsNumber_17 rfl rfl ?_
    refine ab_dup (pc2 := 19) dX12_readsNumber_18 rfl (ab_rf1 _) ?_
    refine ab_getI (pc2 := 22) rfl ht0 fa_X12_73 (by decide) dX12_readsNumber_19 rfl ?_
    refine ab_iconst (pc2 := 23) (v := 1) dX12_readsNumber_22 rfl ab_k_iconst_1 ?_
    refine ab_iadd (pc2 := 24) dX12_readsNumber_23 rfl ?_
    have hf := ab_let_e hf
    refine ab_putI (pc2 := 27) rfl ht0 fa_X12_73 (Or.inl rfl) (fun z => by cases z) dX12_readsNumber_24 rfl ?_
    refine ab_iconst (pc2 := 28) (v := 1) dX12_readsNumber_27 rfl ab_k_iconst_1 ?_
    refine ab_istore_n (pc2 := 29) (lo2 := [some (va_rf _), some (.int _), some (.int _), some (.int _)]) dX12_readsNumber_28 rfl (by decide) rfl ?_
    exact ab_weak (x_X12_readsNumber_l29 ht0 _ _ _ _ _ hf) (ab_leS (ab_leS (ab_leS (ab_leS ab_le0))))
  · refine ab_iconst (pc2 := 8) (v := 0) dX12_readsNumber_7 rfl ab_k_iconst_0 ?_
    cases Option.some.inj hf
    exact ab_retI dX12_readsNumber_8 (Or.inr ⟨rfl, (Or.inl rfl)⟩) (Nat.le_refl _) (Nat.le_refl _) ⟨rfl, rfl, (Or.inl rfl)⟩
set_option maxHeartbeats 4000000 in
set_option maxRecDepth 100000 in
theorem m_X12_readsNumber {d : Nat} {t0 : Nat} {i1 : Int32} {h : ab_HP} {r : (Int32 × ab_HP)} (ht0 : (ab_shp t0).1 = 5) (hf : f_X12_readsNumber t0 i1 h = some r) : ab_MET mX12_readsNumber (d + 2) 0 0 [va_rf (some t0), .int i1] h (ab_Pb r.1 r.2) := ab_met (by decide +kernel) (by decide +kernel) (Nat.le_of_ble_eq_true rfl) rfl (x_X12_readsNumber ht0 hf)
set_option maxHeartbeats 4000000 in
set_option maxRecDepth 100000 in
theorem x_X12_takes {d : Nat} {t0 : Nat} {i1 : Int32} {h : ab_HP} {r : (Int32 × ab_HP)} (ht0 : (ab_shp t0).1 = 5) (hf : f_X12_takes t0 i1 h = some r) : ab_T mX12_takes (d + 1) 0 0 0 0 0 [some (va_rf (some t0)), some (.int i1)] [] h (ab_Pb r.1 r.2) := by
  unfold f_X12_takes at hf
  refine ab_aload_n (x := _) (pc2 := 1) dX12_takes_0 rfl rfl ?_
  obtain ⟨w1, ew1, hf⟩ := ab_bind hf
  refine ab_callV (pc2 := 4) (st := []) rfl ht0 (by decide) (m_X12_here (d := (d + 0)) ht0 ew1) mf_X12_here tw_106 tw_105 ts_X12_here (Or.inl (by decide +kernel)) dX12_takes_1 rfl (by omega) (Nat.le_refl _) (Nat.le_refl _) rfl (Nat.le_of_ble_eq_true rfl) (fun v u hp => ?_)
  obtain ⟨rfl, rfl⟩ := hp
  show ab_T _ _ _ _ 0 0 4 _ (.int _ :: []) _ _
  refine ab_iload_n (pc2 := 5) dX12_takes_4 rfl rfl ?_
  refine ab_icmp_eq (tgt := 10) (pc2 := 8) dX12_takes_5 (by decide) rfl hf (fun c2 hf => ?_) (fun c2 hf => ?_)
  · refine ab_aload_n (x := _) (pc2 := 11) dX12_takes_10 rfl rfl ?_
    refine ab_dup (pc2 := 12) dX12_takes_11 rfl (ab_rf1 _) ?_
    refine ab_getI (pc2 := 15) rfl ht0 fa_X12_73 (by decide) dX12_takes_12 rfl ?_
    refine ab_iconst (pc2 := 16) (v := 1) dX12_takes_15 rfl ab_k_iconst_1 ?_
    refine ab_iadd (pc2 := 17) dX12_takes_16 rfl ?_
    have hf := ab_let_e hf
    refine ab_putI (pc2 := 20) rfl ht0 fa_X12_73 (Or.inl rfl) (fun z => by cases z) dX12_takes_17 rfl ?_
    refine ab_iconst (pc2 := 21) (v := 1) dX12_takes_20 rfl ab_k_iconst_1 ?_
    cases Option.some.inj hf
    exact ab_retI dX12_takes_21 (Or.inr ⟨rfl, (Or.inr rfl)⟩) (Nat.le_refl _) (Nat.le_refl _) ⟨rfl, rfl, (Or.inr rfl)⟩
  · refine ab_iconst (pc2 := 9) (v := 0) dX12_takes_8 rfl ab_k_iconst_0 ?_
    cases Option.some.inj hf
    exact ab_retI dX12_takes_9 (Or.inr ⟨rfl, (Or.inl rfl)⟩) (Nat.le_refl _) (Nat.le_refl _) ⟨rfl, rfl, (Or.inl rfl)⟩
set_option maxHeartbeats 4000000 in
set_option maxRecDepth 100000 in
theorem m_X12_takes {d : Nat} {t0 : Nat} {i1 : Int32} {h : ab_HP} {r : (Int32 × ab_HP)} (ht0 : (ab_shp t0).1 = 5) (hf : f_X12_takes t0 i1 h = some r) : ab_MET mX12_takes (d + 1) 0 0 [va_rf (some t0), .int i1] h (ab_Pb r.1 r.2) := ab_met (by decide +kernel) (by decide +kernel) (Nat.le_of_ble_eq_true rfl) rfl (x_X12_takes ht0 hf)
set_option maxHeartbeats 4000000 in
set_option maxRecDepth 100000 in
theorem x_X12_readsMark {d : Nat} {t0 : Nat} {h : ab_HP} {r : (Int32 × ab_HP)} (ht0 : (ab_shp t0).1 = 5) (hf : f_X12_readsMark t0 h = some r) : ab_T mX12_readsMark (d + 1) 0 0 0 0 0 [some (va_rf (some t0))] [] h (ab_Pb r.1 r.2) := by
  unfold f_X12_readsMark at hf
  refine ab_aload_n (x := _) (pc2 := 1) dX12_readsMark_0 rfl rfl ?_
  obtain ⟨w1, ew1, hf⟩ := ab_bind hf
  refine ab_callV (pc2 := 4) (st := []) rfl ht0 (by decide) (m_X12_here (d := (d + 0)) ht0 ew1) mf_X12_here tw_106 tw_105 ts_X12_here (Or.inl (by decide +kernel)) dX12_readsMark_1 rfl (by omega) (Nat.le_refl _) (Nat.le_refl _) rfl (Nat.le_of_ble_eq_true rfl) (fun v u hp => ?_)
  obtain ⟨rfl, rfl⟩ := hp
  show ab_T _ _ _ _ 0 0 4 _ (.int _ :: []) _ _
  refine ab_i2l (pc2 := 5) dX12_readsMark_4 rfl ?_
  refine ab_ldc2 (pc2 := 8) (v := 97) dX12_readsMark_5 rfl tw_111 ?_
  refine ab_ldc2 (pc2 := 11) (v := 106) dX12_readsMark_8 rfl tw_112 ?_
  obtain ⟨w2, ew2, hf⟩ := ab_bind hf
  refine ab_callS (pc2 := 14) (st := []) (m_X12_isIn (d := (d + 0)) ew2) mf_X12_isIn tw_101 tw_102 dX12_readsMark_11 rfl (by omega) (Nat.le_refl _) (Nat.le_refl _) rfl (Nat.le_of_ble_eq_true rfl) (fun v u hp => ?_)
  obtain ⟨rfl, rfl, z3⟩ := hp
  show ab_T _ _ _ _ 0 0 14 _ (.int _ :: []) _ _
  refine ab_if_ne (tgt := 19) (pc2 := 17) dX12_readsMark_14 (by decide) rfl hf (fun c4 hf => ?_) (fun c4 hf => ?_)
  · refine ab_aload_n (x := _) (pc2 := 20) dX12_readsMark_19 rfl rfl ?_
    refine ab_getR (pc2 := 23) rfl ht0 fa_X12_37 dX12_readsMark_20 rfl (fun T5 => ?_)
    refine ab_aload_n (x := _) (pc2 := 24) dX12_readsMark_23 rfl rfl ?_
    refine ab_getI (pc2 := 27) rfl ht0 fa_X12_94 (by decide) dX12_readsMark_24 rfl ?_
    refine ab_aload_n (x := _) (pc2 := 28) dX12_readsMark_27 rfl rfl ?_
    obtain ⟨w6, ew6, hf⟩ := ab_bind hf
    refine ab_callV (pc2 := 31) (st := [_, _]) rfl ht0 (by decide) (m_X12_here (d := (d + 0)) ht0 ew6) mf_X12_here tw_106 tw_105 ts_X12_here (Or.inl (by decide +kernel)) dX12_readsMark_28 rfl (by omega) (Nat.le_refl _) (Nat.le_refl _) rfl (Nat.le_of_ble_eq_true rfl) (fun v u hp => ?_)
    obtain ⟨rfl, rfl⟩ := hp
    show ab_T _ _ _ _ 0 0 31 _ (.int _ :: [_, _]) _ _
    refine ab_bipush (pc2 := 33) (v := 97) dX12_readsMark_31 rfl ab_k_bipush_97 ?_
    refine ab_isub (pc2 := 34) dX12_readsMark_33 rfl ?_
    obtain ⟨q7, hq7, hf⟩ := ab_bind hf
    obtain ⟨b8, hf⟩ := ab_guard hf
    have hf := ab_let_e hf
    refine ab_iast (pc2 := 35) hq7 (T5 q7 hq7) (ab_in_vp b8) dX12_readsMark_34 rfl ?_
    refine ab_aload_n (x := _) (pc2 := 36) dX12_readsMark_35 rfl rfl ?_
    refine ab_dup (pc2 := 37) dX12_readsMark_36 rfl (ab_rf1 _) ?_
    refine ab_getI (pc2 := 40) rfl ht0 fa_X12_94 (by decide) dX12_readsMark_37 rfl ?_
    refine ab_iconst (pc2 := 41) (v := 1) dX12_readsMark_40 rfl ab_k_iconst_1 ?_
    refine ab_iadd (pc2 := 42) dX12_readsMark_41 rfl ?_
    have hf := ab_let_e hf
    refine ab_putI (pc2 := 45) rfl ht0 fa_X12_94 (Or.inl rfl) (fun z => by cases z) dX12_readsMark_42 rfl ?_
    refine ab_aload_n (x := _) (pc2 := 46) dX12_readsMark_45 rfl rfl ?_
    refine ab_dup (pc2 := 47) dX12_readsMark_46 rfl (ab_rf1 _) ?_
    refine ab_getI (pc2 := 50) rfl ht0 fa_X12_73 (by decide) dX12_readsMark_47 rfl ?_
    refine ab_iconst (pc2 := 51) (v := 1) dX12_readsMark_50 rfl ab_k_iconst_1 ?_
    refine ab_iadd (pc2 := 52) dX12_readsMark_51 rfl ?_
    have hf := ab_let_e hf
    refine ab_putI (pc2 := 55) rfl ht0 fa_X12_73 (Or.inl rfl) (fun z => by cases z) dX12_readsMark_52 rfl ?_
    refine ab_iconst (pc2 := 56) (v := 1) dX12_readsMark_55 rfl ab_k_iconst_1 ?_
    cases Option.some.inj hf
    exact ab_retI dX12_readsMark_56 (Or.inr ⟨rfl, (Or.inr rfl)⟩) (Nat.le_refl _) (Nat.le_refl _) ⟨rfl, rfl, (Or.inr rfl)⟩
  · refine ab_iconst (pc2 := 18) (v := 0) dX12_readsMark_17 rfl ab_k_iconst_0 ?_
    cases Option.some.inj hf
    exact ab_retI dX12_readsMark_18 (Or.inr ⟨rfl, (Or.inl rfl)⟩) (Nat.le_refl _) (Nat.le_refl _) ⟨rfl, rfl, (Or.inl rfl)⟩
set_option maxHeartbeats 4000000 in
set_option maxRecDepth 100000 in
theorem m_X12_readsMark {d : Nat} {t0 : Nat} {h : ab_HP} {r : (Int32 × ab_HP)} (ht0 : (ab_shp t0).1 = 5) (hf : f_X12_readsMark t0 h = some r) : ab_MET mX12_readsMark (d + 1) 0 0 [va_rf (some t0)] h (ab_Pb r.1 r.2) := ab_met (by decide +kernel) (by decide +kernel) (Nat.le_of_ble_eq_true rfl) rfl (x_X12_readsMark ht0 hf)
set_option maxHeartbeats 4000000 in
set_option maxRecDepth 100000 in
theorem x_X12_readsDeed_l27 {d : Nat} {t0 : Nat} {r : (Int32 × ab_HP)} (ht0 : (ab_shp t0).1 = 5) : ∀ (n : Nat) (i1 : Int32) (h : ab_HP), f_X12_readsDeed_l27 t0 n i1 h = some r → ab_T mX12_readsDeed (d + 3) 0 0 0 0 27 [some (va_rf (some t0)), some (.int i1)] [] h (ab_Pb r.1 r.2) := by
  intro n
  induction n with
  | zero =>
    intro i1 h hf
    rw [f_X12_readsDeed_l27] at hf
    cases hf
  | succ n ih =>
    intro i1 h hf
    rw [f_X12_readsDeed_l27] at hf
    refine ab_aload_n (x := _) (pc2 := 28) dX12_readsDeed_27 rfl rfl ?_
    obtain ⟨w9, ew9, hf⟩ := ab_bind hf
    refine ab_callV (pc2 := 31) (st := []) rfl ht0 (by decide) (m_X12_here (d := (d + 2)) ht0 ew9) mf_X12_here tw_106 tw_105 ts_X12_here (Or.inl (by decide +kernel)) dX12_readsDeed_28 rfl (by omega) (Nat.le_refl _) (Nat.le_refl _) rfl (Nat.le_of_ble_eq_true rfl) (fun v u hp => ?_)
    obtain ⟨rfl, rfl⟩ := hp
    show ab_T _ _ _ _ 0 0 31 _ (.int _ :: []) _ _
    refine ab_i2l (pc2 := 32) dX12_readsDeed_31 rfl ?_
    refine ab_bipush (pc2 := 34) (v := 97) dX12_readsDeed_32 rfl ab_k_bipush_97 ?_
    refine ab_iload_n (pc2 := 35) dX12_readsDeed_34 rfl rfl ?_
    refine ab_iadd (pc2 := 36) dX12_readsDeed_35 rfl ?_
    refine ab_iconst (pc2 := 37) (v := 1) dX12_readsDeed_36 rfl ab_k_iconst_1 ?_
    refine ab_iadd (pc2 := 38) dX12_readsDeed_37 rfl ?_
    refine ab_i2l (pc2 := 39) dX12_readsDeed_38 rfl ?_
    refine ab_ldc2 (pc2 := 42) (v := 106) dX12_readsDeed_39 rfl tw_112 ?_
    obtain ⟨w10, ew10, hf⟩ := ab_bind hf
    refine ab_callS (pc2 := 45) (st := []) (m_X12_isIn (d := (d + 2)) ew10) mf_X12_isIn tw_101 tw_102 dX12_readsDeed_42 rfl (by omega) (Nat.le_refl _) (Nat.le_refl _) rfl (Nat.le_of_ble_eq_true rfl) (fun v u hp => ?_)
    obtain ⟨rfl, rfl, z11⟩ := hp
    show ab_T _ _ _ _ 0 0 45 _ (.int _ :: []) _ _
    refine ab_if_eq (tgt := 81) (pc2 := 48) dX12_readsDeed_45 (by decide) rfl hf (fun c12 hf => ?_) (fun c12 hf => ?_)
    · refine ab_aload_n (x := _) (pc2 := 82) dX12_readsDeed_81 rfl rfl ?_
      refine ab_iconst (pc2 := 83) (v := 0) dX12_readsDeed_82 rfl ab_k_iconst_0 ?_
      have hf := ab_let_e hf
      refine ab_putI (pc2 := 86) rfl ht0 fa_X12_94 (Or.inl rfl) (fun z => by cases z) dX12_readsDeed_83 rfl ?_
      refine ab_aload_n (x := _) (pc2 := 87) dX12_readsDeed_86 rfl rfl ?_
      refine ab_bipush (pc2 := 89) (v := 32) dX12_readsDeed_87 rfl ab_k_bipush_32 ?_
      obtain ⟨w14, ew14, hf⟩ := ab_bind hf
      refine ab_callV (pc2 := 92) (st := []) rfl ht0 (by decide) (m_X12_takes (d := (d + 1)) ht0 ew14) mf_X12_takes tw_116 tw_115 ts_X12_takes (Or.inl (by decide +kernel)) dX12_readsDeed_89 rfl (by omega) (Nat.le_refl _) (Nat.le_refl _) rfl (Nat.le_of_ble_eq_true rfl) (fun v u hp => ?_)
      obtain ⟨rfl, rfl, z15⟩ := hp
      show ab_T _ _ _ _ 0 0 92 _ (.int _ :: []) _ _
      refine ab_if_eq (tgt := 127) (pc2 := 95) dX12_readsDeed_92 (by decide) rfl hf (fun c16 hf => ?_) (fun c16 hf => ?_)
      · refine ab_iconst (pc2 := 128) (v := 0) dX12_readsDeed_127 rfl ab_k_iconst_0 ?_
        cases Option.some.inj hf
        exact ab_retI dX12_readsDeed_128 (Or.inr ⟨rfl, (Or.inl rfl)⟩) (Nat.le_refl _) (Nat.le_refl _) ⟨rfl, rfl, (Or.inl rfl)⟩
      · refine ab_aload_n (x := _) (pc2 := 96) dX12_readsDeed_95 rfl rfl ?_
        obtain ⟨w17, ew17, hf⟩ := ab_bind hf
        refine ab_callV (pc2 := 99) (st := []) rfl ht0 (by decide) (m_X12_readsMark (d := (d + 1)) ht0 ew17) mf_X12_readsMark tw_118 tw_117 ts_X12_readsMark (Or.inl (by decide +kernel)) dX12_readsDeed_96 rfl (by omega) (Nat.le_refl _) (Nat.le_refl _) rfl (Nat.le_of_ble_eq_true rfl) (fun v u hp => ?_)
        obtain ⟨rfl, rfl, z18⟩ := hp
        show ab_T _ _ _ _ 0 0 99 _ (.int _ :: []) _ _
        refine ab_if_eq (tgt := 127) (pc2 := 102) dX12_readsDeed_99 (by decide) rfl hf (fun c19 hf => ?_) (fun c19 hf => ?_)
        · refine ab_iconst (pc2 := 128) (v := 0) dX12_readsDeed_127 rfl ab_k_iconst_0 ?_
          cases Option.some.inj hf
          exact ab_retI dX12_readsDeed_128 (Or.inr ⟨rfl, (Or.inl rfl)⟩) (Nat.le_refl _) (Nat.le_refl _) ⟨rfl, rfl, (Or.inl rfl)⟩
        · refine ab_aload_n (x := _) (pc2 := 103) dX12_readsDeed_102 rfl rfl ?_
          refine ab_iconst (pc2 := 104) (v := 2) dX12_readsDeed_103 rfl ab_k_iconst_2 ?_
          obtain ⟨w20, ew20, hf⟩ := ab_bind hf
          refine ab_callV (pc2 := 107) (st := []) rfl ht0 (by decide) (m_X12_readsNumber (d := (d + 0)) ht0 ew20) mf_X12_readsNumber tw_114 tw_113 ts_X12_readsNumber (Or.inl (by decide +kernel)) dX12_readsDeed_104 rfl (by omega) (Nat.le_refl _) (Nat.le_refl _) rfl (Nat.le_of_ble_eq_true rfl) (fun v u hp => ?_)
          obtain ⟨rfl, rfl, z21⟩ := hp
          show ab_T _ _ _ _ 0 0 107 _ (.int _ :: []) _ _
          refine ab_if_eq (tgt := 127) (pc2 := 110) dX12_readsDeed_107 (by decide) rfl hf (fun c22 hf => ?_) (fun c22 hf => ?_)
          · refine ab_iconst (pc2 := 128) (v := 0) dX12_readsDeed_127 rfl ab_k_iconst_0 ?_
            cases Option.some.inj hf
            exact ab_retI dX12_readsDeed_128 (Or.inr ⟨rfl, (Or.inl rfl)⟩) (Nat.le_refl _) (Nat.le_refl _) ⟨rfl, rfl, (Or.inl rfl)⟩
          · refine ab_aload_n (x := _) (pc2 := 111) dX12_readsDeed_110 rfl rfl ?_
            refine ab_bipush (pc2 := 113) (v := 32) dX12_readsDeed_111 rfl ab_k_bipush_32 ?_
            obtain ⟨w23, ew23, hf⟩ := ab_bind hf
            refine ab_callV (pc2 := 116) (st := []) rfl ht0 (by decide) (m_X12_takes (d := (d + 1)) ht0 ew23) mf_X12_takes tw_116 tw_115 ts_X12_takes (Or.inl (by decide +kernel)) dX12_readsDeed_113 rfl (by omega) (Nat.le_refl _) (Nat.le_refl _) rfl (Nat.le_of_ble_eq_true rfl) (fun v u hp => ?_)
            obtain ⟨rfl, rfl, z24⟩ := hp
            show ab_T _ _ _ _ 0 0 116 _ (.int _ :: []) _ _
            refine ab_if_eq (tgt := 127) (pc2 := 119) dX12_readsDeed_116 (by decide) rfl hf (fun c25 hf => ?_) (fun c25 hf => ?_)
            · refine ab_iconst (pc2 := 128) (v := 0) dX12_readsDeed_127 rfl ab_k_iconst_0 ?_
              cases Option.some.inj hf
              exact ab_retI dX12_readsDeed_128 (Or.inr ⟨rfl, (Or.inl rfl)⟩) (Nat.le_refl _) (Nat.le_refl _) ⟨rfl, rfl, (Or.inl rfl)⟩
            · refine ab_aload_n (x := _) (pc2 := 120) dX12_readsDeed_119 rfl rfl ?_
              refine ab_iconst (pc2 := 121) (v := 1) dX12_readsDeed_120 rfl ab_k_iconst_1 ?_
              obtain ⟨w26, ew26, hf⟩ := ab_bind hf
              refine ab_callV (pc2 := 124) (st := []) rfl ht0 (by decide) (m_X12_readsNumber (d := (d + 0)) ht0 ew26) mf_X12_readsNumber tw_114 tw_113 ts_X12_readsNumber (Or.inl (by decide +kernel)) dX12_readsDeed_121 rfl (by omega) (Nat.le_refl _) (Nat.le_refl _) rfl (Nat.le_of_ble_eq_true rfl) (fun v u hp => ?_)
              obtain ⟨rfl, rfl, z27⟩ := hp
              show ab_T _ _ _ _ 0 0 124 _ (.int _ :: []) _ _
              refine ab_if_ne (tgt := 129) (pc2 := 127) dX12_readsDeed_124 (by decide) rfl hf (fun c28 hf => ?_) (fun c28 hf => ?_)
              · refine ab_aload_n (x := _) (pc2 := 130) dX12_readsDeed_129 rfl rfl ?_
                refine ab_aload_n (x := _) (pc2 := 131) dX12_readsDeed_130 rfl rfl ?_
                refine ab_getR (pc2 := 134) rfl ht0 fa_X12_37 dX12_readsDeed_131 rfl (fun T29 => ?_)
                refine ab_iconst (pc2 := 135) (v := 2) dX12_readsDeed_134 rfl ab_k_iconst_2 ?_
                obtain ⟨q30, hq30, hf⟩ := ab_bind hf
                obtain ⟨b31, hf⟩ := ab_guard hf
                refine ab_iald (pc2 := 136) hq30 (T29 q30 hq30) (ab_in_vp b31) dX12_readsDeed_135 rfl ?_
                have hf := ab_let_e hf
                refine ab_putI (pc2 := 139) rfl ht0 fa_X12_117 (Or.inl rfl) (fun z => by cases z) dX12_readsDeed_136 rfl ?_
                refine ab_iconst (pc2 := 140) (v := 1) dX12_readsDeed_139 rfl ab_k_iconst_1 ?_
                cases Option.some.inj hf
                exact ab_retI dX12_readsDeed_140 (Or.inr ⟨rfl, (Or.inr rfl)⟩) (Nat.le_refl _) (Nat.le_refl _) ⟨rfl, rfl, (Or.inr rfl)⟩
              · refine ab_iconst (pc2 := 128) (v := 0) dX12_readsDeed_127 rfl ab_k_iconst_0 ?_
                cases Option.some.inj hf
                exact ab_retI dX12_readsDeed_128 (Or.inr ⟨rfl, (Or.inl rfl)⟩) (Nat.le_refl _) (Nat.le_refl _) ⟨rfl, rfl, (Or.inl rfl)⟩
    · refine ab_aload_n (x := _) (pc2 := 49) dX12_readsDeed_48 rfl rfl ?_
      obtain ⟨w33, ew33, hf⟩ := ab_bind hf
      refine ab_callV (pc2 := 52) (st := []) rfl ht0 (by decide) (m_X12_here (d := (d + 2)) ht0 ew33) mf_X12_here tw_106 tw_105 ts_X12_here (Or.inl (by decide +kernel)) dX12_readsDeed_49 rfl (by omega) (Nat.le_refl _) (Nat.le_refl _) rfl (Nat.le_of_ble_eq_true rfl) (fun v u hp => ?_)
      obtain ⟨rfl, rfl⟩ := hp
      show ab_T _ _ _ _ 0 0 52 _ (.int _ :: []) _ _
      refine ab_bipush (pc2 := 54) (v := 97) dX12_readsDeed_52 rfl ab_k_bipush_97 ?_
      refine ab_isub (pc2 := 55) dX12_readsDeed_54 rfl ?_
      refine ab_istore_n (pc2 := 56) (lo2 := [some (va_rf _), some (.int _)]) dX12_readsDeed_55 rfl (by decide) rfl ?_
      refine ab_aload_n (x := _) (pc2 := 57) dX12_readsDeed_56 rfl rfl ?_
      refine ab_dup (pc2 := 58) dX12_readsDeed_57 rfl (ab_rf1 _) ?_
      refine ab_getI (pc2 := 61) rfl ht0 fa_X12_108 (by decide) dX12_readsDeed_58 rfl ?_
      refine ab_iconst (pc2 := 62) (v := 1) dX12_readsDeed_61 rfl ab_k_iconst_1 ?_
      refine ab_iload_n (pc2 := 63) dX12_readsDeed_62 rfl rfl ?_
      refine ab_ishl (pc2 := 64) dX12_readsDeed_63 rfl ?_
      refine ab_ior (pc2 := 65) dX12_readsDeed_64 rfl ?_
      have hf := ab_let_e hf
      refine ab_putI (pc2 := 68) rfl ht0 fa_X12_108 (Or.inl rfl) (fun z => by cases z) dX12_readsDeed_65 rfl ?_
      refine ab_aload_n (x := _) (pc2 := 69) dX12_readsDeed_68 rfl rfl ?_
      refine ab_dup (pc2 := 70) dX12_readsDeed_69 rfl (ab_rf1 _) ?_
      refine ab_getI (pc2 := 73) rfl ht0 fa_X12_73 (by decide) dX12_readsDeed_70 rfl ?_
      refine ab_iconst (pc2 := 74) (v := 1) dX12_readsDeed_73 rfl ab_k_iconst_1 ?_
      refine ab_iadd (pc2 := 75) dX12_readsDeed_74 rfl ?_
      have hf := ab_let_e hf
      refine ab_putI (pc2 := 78) rfl ht0 fa_X12_73 (Or.inl rfl) (fun z => by cases z) dX12_readsDeed_75 rfl ?_
      refine ab_goto (tgt := 27) dX12_readsDeed_78 (by decide) ?_
      exact ab_weak (ih _ _ hf) (ab_leS (ab_leS ab_le0))
set_option maxHeartbeats 4000000 in
set_option maxRecDepth 100000 in
theorem x_X12_readsDeed {d : Nat} {t0 : Nat} {h : ab_HP} {r : (Int32 × ab_HP)} (ht0 : (ab_shp t0).1 = 5) (hf : f_X12_readsDeed t0 h = some r) : ab_T mX12_readsDeed (d + 3) 0 0 0 0 0 [some (va_rf (some t0)), none] [] h (ab_Pb r.1 r.2) := by
  unfold f_X12_readsDeed at hf
  refine ab_aload_n (x := _) (pc2 := 1) dX12_readsDeed_0 rfl rfl ?_
  refine ab_iconst (pc2 := 2) (v := 1) dX12_readsDeed_1 rfl ab_k_iconst_1 ?_
  obtain ⟨w1, ew1, hf⟩ := ab_bind hf
  refine ab_callV (pc2 := 5) (st := []) rfl ht0 (by decide) (m_X12_readsNumber (d := (d + 0)) ht0 ew1) mf_X12_readsNumber tw_114 tw_113 ts_X12_readsNumber (Or.inl (by decide +kernel)) dX12_readsDeed_2 rfl (by omega) (Nat.le_refl _) (Nat.le_refl _) rfl (Nat.le_of_ble_eq_true rfl) (fun v u hp => ?_)
  obtain ⟨rfl, rfl, z2⟩ := hp
  show ab_T _ _ _ _ 0 0 5 _ (.int _ :: []) _ _
  refine ab_if_ne (tgt := 10) (pc2 := 8) dX12_readsDeed_5 (by decide) rfl hf (fun c3 hf => ?_) (fun c3 hf => ?_)
  · refine ab_aload_n (x := _) (pc2 := 11) dX12_readsDeed_10 rfl rfl ?_
    refine ab_aload_n (x := _) (pc2 := 12) dX12_readsDeed_11 rfl rfl ?_
    refine ab_getR (pc2 := 15) rfl ht0 fa_X12_37 dX12_readsDeed_12 rfl (fun T4 => ?_)
    refine ab_iconst (pc2 := 16) (v := 0) dX12_readsDeed_15 rfl ab_k_iconst_0 ?_
    obtain ⟨q5, hq5, hf⟩ := ab_bind hf
    obtain ⟨b6, hf⟩ := ab_guard hf
    refine ab_iald (pc2 := 17) hq5 (T4 q5 hq5) (ab_in_vp b6) dX12_readsDeed_16 rfl ?_
    have hf := ab_let_e hf
    refine ab_putI (pc2 := 20) rfl ht0 fa_X12_105 (Or.inl rfl) (fun z => by cases z) dX12_readsDeed_17 rfl ?_
    refine ab_aload_n (x := _) (pc2 := 21) dX12_readsDeed_20 rfl rfl ?_
    refine ab_iconst (pc2 := 22) (v := 0) dX12_readsDeed_21 rfl ab_k_iconst_0 ?_
    have hf := ab_let_e hf
    refine ab_putI (pc2 := 25) rfl ht0 fa_X12_108 (Or.inl rfl) (fun z => by cases z) dX12_readsDeed_22 rfl ?_
    refine ab_iconst (pc2 := 26) (v := (-1)) dX12_readsDeed_25 rfl ab_k_iconst_m1 ?_
    refine ab_istore_n (pc2 := 27) (lo2 := [some (va_rf _), some (.int _)]) dX12_readsDeed_26 rfl (by decide) rfl ?_
    exact ab_weak (x_X12_readsDeed_l27 ht0 _ _ _ hf) (ab_leS (ab_leS ab_le0))
  · refine ab_iconst (pc2 := 9) (v := 0) dX12_readsDeed_8 rfl ab_k_iconst_0 ?_
    cases Option.some.inj hf
    exact ab_retI dX12_readsDeed_9 (Or.inr ⟨rfl, (Or.inl rfl)⟩) (Nat.le_refl _) (Nat.le_refl _) ⟨rfl, rfl, (Or.inl rfl)⟩
set_option maxHeartbeats 4000000 in
set_option maxRecDepth 100000 in
theorem m_X12_readsDeed {d : Nat} {t0 : Nat} {h : ab_HP} {r : (Int32 × ab_HP)} (ht0 : (ab_shp t0).1 = 5) (hf : f_X12_readsDeed t0 h = some r) : ab_MET mX12_readsDeed (d + 3) 0 0 [va_rf (some t0)] h (ab_Pb r.1 r.2) := ab_met (by decide +kernel) (by decide +kernel) (Nat.le_of_ble_eq_true rfl) rfl (x_X12_readsDeed ht0 hf)
set_option maxHeartbeats 4000000 in
set_option maxRecDepth 100000 in
theorem x_X12_readsStatement_b211 {d : Nat} {t0 : Nat} {i2 : Int32} {h : ab_HP} {r : (Int32 × ab_HP)} (ht0 : (ab_shp t0).1 = 5) (hf : f_X12_readsStatement_b211 t0 i2 h = some r) : ab_T mX12_readsStatement (d + 4) 0 0 0 0 211 [some (va_rf (some t0)), none, some (.int i2), none] [] h (ab_Pb r.1 r.2) := by
  unfold f_X12_readsStatement_b211 at hf
  refine ab_iload_n (pc2 := 212) dX12_readsStatement_211 rfl rfl ?_
  refine ab_if_eq (tgt := 228) (pc2 := 215) dX12_readsStatement_212 (by decide) rfl hf (fun c41 hf => ?_) (fun c41 hf => ?_)
  · refine ab_iconst (pc2 := 229) (v := 0) dX12_readsStatement_228 rfl ab_k_iconst_0 ?_
    cases Option.some.inj hf
    exact ab_retI dX12_readsStatement_229 (Or.inr ⟨rfl, (Or.inl rfl)⟩) (Nat.le_refl _) (Nat.le_refl _) ⟨rfl, rfl, (Or.inl rfl)⟩
  · refine ab_aload_n (x := _) (pc2 := 216) dX12_readsStatement_215 rfl rfl ?_
    refine ab_bipush (pc2 := 218) (v := 59) dX12_readsStatement_216 rfl ab_k_bipush_59 ?_
    obtain ⟨w42, ew42, hf⟩ := ab_bind hf
    refine ab_callV (pc2 := 221) (st := []) rfl ht0 (by decide) (m_X12_takes (d := (d + 2)) ht0 ew42) mf_X12_takes tw_116 tw_115 ts_X12_takes (Or.inl (by decide +kernel)) dX12_readsStatement_218 rfl (by omega) (Nat.le_refl _) (Nat.le_refl _) rfl (Nat.le_of_ble_eq_true rfl) (fun v u hp => ?_)
    obtain ⟨rfl, rfl, z43⟩ := hp
    show ab_T _ _ _ _ 0 0 221 _ (.int _ :: []) _ _
    refine ab_if_eq (tgt := 228) (pc2 := 224) dX12_readsStatement_221 (by decide) rfl hf (fun c44 hf => ?_) (fun c44 hf => ?_)
    · refine ab_iconst (pc2 := 229) (v := 0) dX12_readsStatement_228 rfl ab_k_iconst_0 ?_
      cases Option.some.inj hf
      exact ab_retI dX12_readsStatement_229 (Or.inr ⟨rfl, (Or.inl rfl)⟩) (Nat.le_refl _) (Nat.le_refl _) ⟨rfl, rfl, (Or.inl rfl)⟩
    · refine ab_iconst (pc2 := 225) (v := 1) dX12_readsStatement_224 rfl ab_k_iconst_1 ?_
      refine ab_goto (tgt := 229) dX12_readsStatement_225 (by decide) ?_
      cases Option.some.inj hf
      exact ab_retI dX12_readsStatement_229 (Or.inr ⟨rfl, (Or.inr rfl)⟩) (Nat.le_refl _) (Nat.le_refl _) ⟨rfl, rfl, (Or.inr rfl)⟩
set_option maxHeartbeats 4000000 in
set_option maxRecDepth 100000 in
theorem x_X12_readsStatement_b184 {d : Nat} {t0 : Nat} {i3 : Int32} {h : ab_HP} {r : (Int32 × ab_HP)} (ht0 : (ab_shp t0).1 = 5) (hf : f_X12_readsStatement_b184 t0 i3 h = some r) : ab_T mX12_readsStatement (d + 4) 0 0 0 0 184 [some (va_rf (some t0)), none, none, some (.int i3)] [] h (ab_Pb r.1 r.2) := by
  unfold f_X12_readsStatement_b184 at hf
  refine ab_aload_n (x := _) (pc2 := 185) dX12_readsStatement_184 rfl rfl ?_
  refine ab_iconst (pc2 := 186) (v := 1) dX12_readsStatement_185 rfl ab_k_iconst_1 ?_
  obtain ⟨w45, ew45, hf⟩ := ab_bind hf
  refine ab_callV (pc2 := 189) (st := []) rfl ht0 (by decide) (m_X12_readsNumber (d := (d + 1)) ht0 ew45) mf_X12_readsNumber tw_114 tw_113 ts_X12_readsNumber (Or.inl (by decide +kernel)) dX12_readsStatement_186 rfl (by omega) (Nat.le_refl _) (Nat.le_refl _) rfl (Nat.le_of_ble_eq_true rfl) (fun v u hp => ?_)
  obtain ⟨rfl, rfl, z46⟩ := hp
  show ab_T _ _ _ _ 0 0 189 _ (.int _ :: []) _ _
  refine ab_istore_n (pc2 := 190) (lo2 := [some (va_rf _), none, some (.int _), some (.int _)]) dX12_readsStatement_189 rfl (by decide) rfl ?_
  refine ab_iload_n (pc2 := 191) dX12_readsStatement_190 rfl rfl ?_
  refine ab_if_eq (tgt := 211) (pc2 := 194) dX12_readsStatement_191 (by decide) rfl hf (fun c47 hf => ?_) (fun c47 hf => ?_)
  · exact ab_weak (x_X12_readsStatement_b211 ht0 hf) (ab_leS (ab_leN (ab_leS (ab_leN ab_le0))))
  · refine ab_iload_n (pc2 := 195) dX12_readsStatement_194 rfl rfl ?_
    refine ab_if_eq (tgt := 211) (pc2 := 198) dX12_readsStatement_195 (by decide) rfl hf (fun c48 hf => ?_) (fun c48 hf => ?_)
    · exact ab_weak (x_X12_readsStatement_b211 ht0 hf) (ab_leS (ab_leN (ab_leS (ab_leN ab_le0))))
    · refine ab_aload_n (x := _) (pc2 := 199) dX12_readsStatement_198 rfl rfl ?_
      refine ab_getR (pc2 := 202) rfl ht0 fa_X12_37 dX12_readsStatement_199 rfl (fun T49 => ?_)
      refine ab_iconst (pc2 := 203) (v := 1) dX12_readsStatement_202 rfl ab_k_iconst_1 ?_
      refine ab_aload_n (x := _) (pc2 := 204) dX12_readsStatement_203 rfl rfl ?_
      refine ab_getR (pc2 := 207) rfl ht0 fa_X12_37 dX12_readsStatement_204 rfl (fun T50 => ?_)
      refine ab_iconst (pc2 := 208) (v := 1) dX12_readsStatement_207 rfl ab_k_iconst_1 ?_
      obtain ⟨q51, hq51, hf⟩ := ab_bind hf
      obtain ⟨b52, hf⟩ := ab_guard hf
      refine ab_iald (pc2 := 209) hq51 (T50 q51 hq51) (ab_in_vp b52) dX12_readsStatement_208 rfl ?_
      refine ab_ineg (pc2 := 210) dX12_readsStatement_209 rfl ?_
      obtain ⟨b53, hf⟩ := ab_guard hf
      have hf := ab_let_e hf
      refine ab_iast (pc2 := 211) hq51 (T50 q51 hq51) (ab_in_vp b53) dX12_readsStatement_210 rfl ?_
      exact ab_weak (x_X12_readsStatement_b211 ht0 hf) (ab_leS (ab_leN (ab_leS (ab_leN ab_le0))))
set_option maxHeartbeats 4000000 in
set_option maxRecDepth 100000 in
theorem x_X12_readsStatement_b42 {d : Nat} {t0 : Nat} {i1 : Int32} {h : ab_HP} {r : (Int32 × ab_HP)} (ht0 : (ab_shp t0).1 = 5) (hf : f_X12_readsStatement_b42 t0 i1 h = some r) : ab_T mX12_readsStatement (d + 4) 0 0 0 0 42 [some (va_rf (some t0)), some (.int i1), none, none] [] h (ab_Pb r.1 r.2) := by
  unfold f_X12_readsStatement_b42 at hf
  refine ab_aload_n (x := _) (pc2 := 43) dX12_readsStatement_42 rfl rfl ?_
  refine ab_dup (pc2 := 44) dX12_readsStatement_43 rfl (ab_rf1 _) ?_
  refine ab_getI (pc2 := 47) rfl ht0 fa_X12_73 (by decide) dX12_readsStatement_44 rfl ?_
  refine ab_iconst (pc2 := 48) (v := 1) dX12_readsStatement_47 rfl ab_k_iconst_1 ?_
  refine ab_iadd (pc2 := 49) dX12_readsStatement_48 rfl ?_
  have hf := ab_let_e hf
  refine ab_putI (pc2 := 52) rfl ht0 fa_X12_73 (Or.inl rfl) (fun z => by cases z) dX12_readsStatement_49 rfl ?_
  refine ab_iconst (pc2 := 53) (v := 0) dX12_readsStatement_52 rfl ab_k_iconst_0 ?_
  refine ab_istore_n (pc2 := 54) (lo2 := [some (va_rf _), some (.int _), some (.int _), none]) dX12_readsStatement_53 rfl (by decide) rfl ?_
  refine ab_iload_n (pc2 := 55) dX12_readsStatement_54 rfl rfl ?_
  rcases ab_cas hf with ⟨s9, hf⟩ | ⟨s9, hf⟩
  · refine ab_lswK (tgt := 112) dX12_readsStatement_55 s9 (by decide +kernel) (by decide +kernel) (by decide) ?_
    refine ab_aload_n (x := _) (pc2 := 113) dX12_readsStatement_112 rfl rfl ?_
    refine ab_iconst (pc2 := 114) (v := 4) dX12_readsStatement_113 rfl ab_k_iconst_4 ?_
    obtain ⟨w10, ew10, hf⟩ := ab_bind hf
    refine ab_callV (pc2 := 117) (st := []) rfl ht0 (by decide) (m_X12_readsNumber (d := (d + 1)) ht0 ew10) mf_X12_readsNumber tw_114 tw_113 ts_X12_readsNumber (Or.inl (by decide +kernel)) dX12_readsStatement_114 rfl (by omega) (Nat.le_refl _) (Nat.le_refl _) rfl (Nat.le_of_ble_eq_true rfl) (fun v u hp => ?_)
    obtain ⟨rfl, rfl, z11⟩ := hp
    show ab_T _ _ _ _ 0 0 117 _ (.int _ :: []) _ _
    refine ab_istore_n (pc2 := 118) (lo2 := [some (va_rf _), some (.int _), some (.int _), none]) dX12_readsStatement_117 rfl (by decide) rfl ?_
    refine ab_goto (tgt := 211) dX12_readsStatement_118 (by decide) ?_
    exact ab_weak (x_X12_readsStatement_b211 ht0 hf) (ab_leS (ab_leN (ab_leS (ab_leN ab_le0))))
  rcases ab_cas hf with ⟨s12, hf⟩ | ⟨s12, hf⟩
  · refine ab_lswK (tgt := 96) dX12_readsStatement_55 s12 (by decide +kernel) (by decide +kernel) (by decide) ?_
    refine ab_aload_n (x := _) (pc2 := 97) dX12_readsStatement_96 rfl rfl ?_
    obtain ⟨w13, ew13, hf⟩ := ab_bind hf
    refine ab_callV (pc2 := 100) (st := []) rfl ht0 (by decide) (m_X12_readsDeed (d := (d + 0)) ht0 ew13) mf_X12_readsDeed tw_120 tw_119 ts_X12_readsDeed (Or.inl (by decide +kernel)) dX12_readsStatement_97 rfl (by omega) (Nat.le_refl _) (Nat.le_refl _) rfl (Nat.le_of_ble_eq_true rfl) (fun v u hp => ?_)
    obtain ⟨rfl, rfl, z14⟩ := hp
    show ab_T _ _ _ _ 0 0 100 _ (.int _ :: []) _ _
    refine ab_istore_n (pc2 := 101) (lo2 := [some (va_rf _), some (.int _), some (.int _), none]) dX12_readsStatement_100 rfl (by decide) rfl ?_
    refine ab_goto (tgt := 211) dX12_readsStatement_101 (by decide) ?_
    exact ab_weak (x_X12_readsStatement_b211 ht0 hf) (ab_leS (ab_leN (ab_leS (ab_leN ab_le0))))
  rcases ab_cas hf with ⟨s15, hf⟩ | ⟨s15, hf⟩
  · refine ab_lswK (tgt := 121) dX12_readsStatement_55 s15 (by decide +kernel) (by decide +kernel) (by decide) ?_
    refine ab_aload_n (x := _) (pc2 := 122) dX12_readsStatement_121 rfl rfl ?_
    refine ab_iconst (pc2 := 123) (v := 1) dX12_readsStatement_122 rfl ab_k_iconst_1 ?_
    obtain ⟨w16, ew16, hf⟩ := ab_bind hf
    refine ab_callV (pc2 := 126) (st := []) rfl ht0 (by decide) (m_X12_readsNumber (d := (d + 1)) ht0 ew16) mf_X12_readsNumber tw_114 tw_113 ts_X12_readsNumber (Or.inl (by decide +kernel)) dX12_readsStatement_123 rfl (by omega) (Nat.le_refl _) (Nat.le_refl _) rfl (Nat.le_of_ble_eq_true rfl) (fun v u hp => ?_)
    obtain ⟨rfl, rfl, z17⟩ := hp
    show ab_T _ _ _ _ 0 0 126 _ (.int _ :: []) _ _
    refine ab_istore_n (pc2 := 127) (lo2 := [some (va_rf _), some (.int _), some (.int _), none]) dX12_readsStatement_126 rfl (by decide) rfl ?_
    refine ab_goto (tgt := 211) dX12_readsStatement_127 (by decide) ?_
    exact ab_weak (x_X12_readsStatement_b211 ht0 hf) (ab_leS (ab_leN (ab_leS (ab_leN ab_le0))))
  rcases ab_cas hf with ⟨s18, hf⟩ | ⟨s18, hf⟩
  · refine ab_lswK (tgt := 104) dX12_readsStatement_55 s18 (by decide +kernel) (by decide +kernel) (by decide) ?_
    refine ab_aload_n (x := _) (pc2 := 105) dX12_readsStatement_104 rfl rfl ?_
    obtain ⟨w19, ew19, hf⟩ := ab_bind hf
    refine ab_callV (pc2 := 108) (st := []) rfl ht0 (by decide) (m_X12_readsMark (d := (d + 2)) ht0 ew19) mf_X12_readsMark tw_118 tw_117 ts_X12_readsMark (Or.inl (by decide +kernel)) dX12_readsStatement_105 rfl (by omega) (Nat.le_refl _) (Nat.le_refl _) rfl (Nat.le_of_ble_eq_true rfl) (fun v u hp => ?_)
    obtain ⟨rfl, rfl, z20⟩ := hp
    show ab_T _ _ _ _ 0 0 108 _ (.int _ :: []) _ _
    refine ab_istore_n (pc2 := 109) (lo2 := [some (va_rf _), some (.int _), some (.int _), none]) dX12_readsStatement_108 rfl (by decide) rfl ?_
    refine ab_goto (tgt := 211) dX12_readsStatement_109 (by decide) ?_
    exact ab_weak (x_X12_readsStatement_b211 ht0 hf) (ab_leS (ab_leN (ab_leS (ab_leN ab_le0))))
  refine ab_lsw (tgt := 130) (off := 75) dX12_readsStatement_55 (by decide +kernel) (by show Op.lookupswitch.offset [(99, 57), (100, 41), (108, 66), (109, 49)] _ _ = _; rw [lv_osw s9 (by decide), lv_osw s12 (by decide), lv_osw s15 (by decide), lv_osw s18 (by decide)]; rfl) (by decide) ?_
  refine ab_aload_n (x := _) (pc2 := 131) dX12_readsStatement_130 rfl rfl ?_
  refine ab_iconst (pc2 := 132) (v := 2) dX12_readsStatement_131 rfl ab_k_iconst_2 ?_
  obtain ⟨w21, ew21, hf⟩ := ab_bind hf
  refine ab_callV (pc2 := 135) (st := []) rfl ht0 (by decide) (m_X12_readsNumber (d := (d + 1)) ht0 ew21) mf_X12_readsNumber tw_114 tw_113 ts_X12_readsNumber (Or.inl (by decide +kernel)) dX12_readsStatement_132 rfl (by omega) (Nat.le_refl _) (Nat.le_refl _) rfl (Nat.le_of_ble_eq_true rfl) (fun v u hp => ?_)
  obtain ⟨rfl, rfl, z22⟩ := hp
  show ab_T _ _ _ _ 0 0 135 _ (.int _ :: []) _ _
  refine ab_if_eq (tgt := 147) (pc2 := 138) dX12_readsStatement_135 (by decide) rfl hf (fun c23 hf => ?_) (fun c23 hf => ?_)
  · refine ab_iconst (pc2 := 148) (v := 0) dX12_readsStatement_147 rfl ab_k_iconst_0 ?_
    cases Option.some.inj hf
    exact ab_retI dX12_readsStatement_148 (Or.inr ⟨rfl, (Or.inl rfl)⟩) (Nat.le_refl _) (Nat.le_refl _) ⟨rfl, rfl, (Or.inl rfl)⟩
  · refine ab_aload_n (x := _) (pc2 := 139) dX12_readsStatement_138 rfl rfl ?_
    refine ab_bipush (pc2 := 141) (v := 32) dX12_readsStatement_139 rfl ab_k_bipush_32 ?_
    obtain ⟨w24, ew24, hf⟩ := ab_bind hf
    refine ab_callV (pc2 := 144) (st := []) rfl ht0 (by decide) (m_X12_takes (d := (d + 2)) ht0 ew24) mf_X12_takes tw_116 tw_115 ts_X12_takes (Or.inl (by decide +kernel)) dX12_readsStatement_141 rfl (by omega) (Nat.le_refl _) (Nat.le_refl _) rfl (Nat.le_of_ble_eq_true rfl) (fun v u hp => ?_)
    obtain ⟨rfl, rfl, z25⟩ := hp
    show ab_T _ _ _ _ 0 0 144 _ (.int _ :: []) _ _
    refine ab_if_ne (tgt := 149) (pc2 := 147) dX12_readsStatement_144 (by decide) rfl hf (fun c26 hf => ?_) (fun c26 hf => ?_)
    · refine ab_aload_n (x := _) (pc2 := 150) dX12_readsStatement_149 rfl rfl ?_
      obtain ⟨w27, ew27, hf⟩ := ab_bind hf
      refine ab_callV (pc2 := 153) (st := []) rfl ht0 (by decide) (m_X12_here (d := (d + 3)) ht0 ew27) mf_X12_here tw_106 tw_105 ts_X12_here (Or.inl (by decide +kernel)) dX12_readsStatement_150 rfl (by omega) (Nat.le_refl _) (Nat.le_refl _) rfl (Nat.le_of_ble_eq_true rfl) (fun v u hp => ?_)
      obtain ⟨rfl, rfl⟩ := hp
      show ab_T _ _ _ _ 0 0 153 _ (.int _ :: []) _ _
      refine ab_bipush (pc2 := 155) (v := 45) dX12_readsStatement_153 rfl ab_k_bipush_45 ?_
      refine ab_icmp_ne (tgt := 162) (pc2 := 158) dX12_readsStatement_155 (by decide) rfl hf (fun c28 hf => ?_) (fun c28 hf => ?_)
      · refine ab_iconst (pc2 := 163) (v := 0) dX12_readsStatement_162 rfl ab_k_iconst_0 ?_
        refine ab_istore_n (pc2 := 164) (lo2 := [some (va_rf _), some (.int _), some (.int _), some (.int _)]) dX12_readsStatement_163 rfl (by decide) rfl ?_
        refine ab_aload_n (x := _) (pc2 := 165) dX12_readsStatement_164 rfl rfl ?_
        refine ab_bipush (pc2 := 167) (v := 43) dX12_readsStatement_165 rfl ab_k_bipush_43 ?_
        obtain ⟨w29, ew29, hf⟩ := ab_bind hf
        refine ab_callV (pc2 := 170) (st := []) rfl ht0 (by decide) (m_X12_takes (d := (d + 2)) ht0 ew29) mf_X12_takes tw_116 tw_115 ts_X12_takes (Or.inl (by decide +kernel)) dX12_readsStatement_167 rfl (by omega) (Nat.le_refl _) (Nat.le_refl _) rfl (Nat.le_of_ble_eq_true rfl) (fun v u hp => ?_)
        obtain ⟨rfl, rfl, z30⟩ := hp
        show ab_T _ _ _ _ 0 0 170 _ (.int _ :: []) _ _
        refine ab_if_ne (tgt := 184) (pc2 := 173) dX12_readsStatement_170 (by decide) rfl hf (fun c31 hf => ?_) (fun c31 hf => ?_)
        · exact ab_weak (x_X12_readsStatement_b184 ht0 hf) (ab_leS (ab_leN (ab_leN (ab_leS ab_le0))))
        · refine ab_aload_n (x := _) (pc2 := 174) dX12_readsStatement_173 rfl rfl ?_
          refine ab_bipush (pc2 := 176) (v := 45) dX12_readsStatement_174 rfl ab_k_bipush_45 ?_
          obtain ⟨w32, ew32, hf⟩ := ab_bind hf
          refine ab_callV (pc2 := 179) (st := []) rfl ht0 (by decide) (m_X12_takes (d := (d + 2)) ht0 ew32) mf_X12_takes tw_116 tw_115 ts_X12_takes (Or.inl (by decide +kernel)) dX12_readsStatement_176 rfl (by omega) (Nat.le_refl _) (Nat.le_refl _) rfl (Nat.le_of_ble_eq_true rfl) (fun v u hp => ?_)
          obtain ⟨rfl, rfl, z33⟩ := hp
          show ab_T _ _ _ _ 0 0 179 _ (.int _ :: []) _ _
          refine ab_if_ne (tgt := 184) (pc2 := 182) dX12_readsStatement_179 (by decide) rfl hf (fun c34 hf => ?_) (fun c34 hf => ?_)
          · exact ab_weak (x_X12_readsStatement_b184 ht0 hf) (ab_leS (ab_leN (ab_leN (ab_leS ab_le0))))
          · refine ab_iconst (pc2 := 183) (v := 0) dX12_readsStatement_182 rfl ab_k_iconst_0 ?_
            cases Option.some.inj hf
            exact ab_retI dX12_readsStatement_183 (Or.inr ⟨rfl, (Or.inl rfl)⟩) (Nat.le_refl _) (Nat.le_refl _) ⟨rfl, rfl, (Or.inl rfl)⟩
      · refine ab_iconst (pc2 := 159) (v := 1) dX12_readsStatement_158 rfl ab_k_iconst_1 ?_
        refine ab_goto (tgt := 163) dX12_readsStatement_159 (by decide) ?_
        refine ab_istore_n (pc2 := 164) (lo2 := [some (va_rf _), some (.int _), some (.int _), some (.int _)]) dX12_readsStatement_163 rfl (by decide) rfl ?_
        refine ab_aload_n (x := _) (pc2 := 165) dX12_readsStatement_164 rfl rfl ?_
        refine ab_bipush (pc2 := 167) (v := 43) dX12_readsStatement_165 rfl ab_k_bipush_43 ?_
        obtain ⟨w35, ew35, hf⟩ := ab_bind hf
        refine ab_callV (pc2 := 170) (st := []) rfl ht0 (by decide) (m_X12_takes (d := (d + 2)) ht0 ew35) mf_X12_takes tw_116 tw_115 ts_X12_takes (Or.inl (by decide +kernel)) dX12_readsStatement_167 rfl (by omega) (Nat.le_refl _) (Nat.le_refl _) rfl (Nat.le_of_ble_eq_true rfl) (fun v u hp => ?_)
        obtain ⟨rfl, rfl, z36⟩ := hp
        show ab_T _ _ _ _ 0 0 170 _ (.int _ :: []) _ _
        refine ab_if_ne (tgt := 184) (pc2 := 173) dX12_readsStatement_170 (by decide) rfl hf (fun c37 hf => ?_) (fun c37 hf => ?_)
        · exact ab_weak (x_X12_readsStatement_b184 ht0 hf) (ab_leS (ab_leN (ab_leN (ab_leS ab_le0))))
        · refine ab_aload_n (x := _) (pc2 := 174) dX12_readsStatement_173 rfl rfl ?_
          refine ab_bipush (pc2 := 176) (v := 45) dX12_readsStatement_174 rfl ab_k_bipush_45 ?_
          obtain ⟨w38, ew38, hf⟩ := ab_bind hf
          refine ab_callV (pc2 := 179) (st := []) rfl ht0 (by decide) (m_X12_takes (d := (d + 2)) ht0 ew38) mf_X12_takes tw_116 tw_115 ts_X12_takes (Or.inl (by decide +kernel)) dX12_readsStatement_176 rfl (by omega) (Nat.le_refl _) (Nat.le_refl _) rfl (Nat.le_of_ble_eq_true rfl) (fun v u hp => ?_)
          obtain ⟨rfl, rfl, z39⟩ := hp
          show ab_T _ _ _ _ 0 0 179 _ (.int _ :: []) _ _
          refine ab_if_ne (tgt := 184) (pc2 := 182) dX12_readsStatement_179 (by decide) rfl hf (fun c40 hf => ?_) (fun c40 hf => ?_)
          · exact ab_weak (x_X12_readsStatement_b184 ht0 hf) (ab_leS (ab_leN (ab_leN (ab_leS ab_le0))))
          · refine ab_iconst (pc2 := 183) (v := 0) dX12_readsStatement_182 rfl ab_k_iconst_0 ?_
            cases Option.some.inj hf
            exact ab_retI dX12_readsStatement_183 (Or.inr ⟨rfl, (Or.inl rfl)⟩) (Nat.le_refl _) (Nat.le_refl _) ⟨rfl, rfl, (Or.inl rfl)⟩
    · refine ab_iconst (pc2 := 148) (v := 0) dX12_readsStatement_147 rfl ab_k_iconst_0 ?_
      cases Option.some.inj hf
      exact ab_retI dX12_readsStatement_148 (Or.inr ⟨rfl, (Or.inl rfl)⟩) (Nat.le_refl _) (Nat.le_refl _) ⟨rfl, rfl, (Or.inl rfl)⟩
set_option maxHeartbeats 4000000 in
set_option maxRecDepth 100000 in
theorem x_X12_readsStatement {d : Nat} {t0 : Nat} {h : ab_HP} {r : (Int32 × ab_HP)} (ht0 : (ab_shp t0).1 = 5) (hf : f_X12_readsStatement t0 h = some r) : ab_T mX12_readsStatement (d + 4) 0 0 0 0 0 [some (va_rf (some t0)), none, none, none] [] h (ab_Pb r.1 r.2) := by
  unfold f_X12_readsStatement at hf
  refine ab_aload_n (x := _) (pc2 := 1) dX12_readsStatement_0 rfl rfl ?_
  obtain ⟨w1, ew1, hf⟩ := ab_bind hf
  refine ab_callV (pc2 := 4) (st := []) rfl ht0 (by decide) (m_X12_here (d := (d + 3)) ht0 ew1) mf_X12_here tw_106 tw_105 ts_X12_here (Or.inl (by decide +kernel)) dX12_readsStatement_1 rfl (by omega) (Nat.le_refl _) (Nat.le_refl _) rfl (Nat.le_of_ble_eq_true rfl) (fun v u hp => ?_)
  obtain ⟨rfl, rfl⟩ := hp
  show ab_T _ _ _ _ 0 0 4 _ (.int _ :: []) _ _
  refine ab_istore_n (pc2 := 5) (lo2 := [some (va_rf _), some (.int _), none, none]) dX12_readsStatement_4 rfl (by decide) rfl ?_
  refine ab_aload_n (x := _) (pc2 := 6) dX12_readsStatement_5 rfl rfl ?_
  refine ab_iconst (pc2 := 7) (v := 0) dX12_readsStatement_6 rfl ab_k_iconst_0 ?_
  have hf := ab_let_e hf
  refine ab_putI (pc2 := 10) rfl ht0 fa_X12_94 (Or.inl rfl) (fun z => by cases z) dX12_readsStatement_7 rfl ?_
  refine ab_iload_n (pc2 := 11) dX12_readsStatement_10 rfl rfl ?_
  refine ab_bipush (pc2 := 13) (v := 100) dX12_readsStatement_11 rfl ab_k_bipush_100 ?_
  refine ab_icmp_eq (tgt := 42) (pc2 := 16) dX12_readsStatement_13 (by decide) rfl hf (fun c3 hf => ?_) (fun c3 hf => ?_)
  · exact ab_weak (x_X12_readsStatement_b42 ht0 hf) (ab_leS (ab_leS (ab_leN (ab_leN ab_le0))))
  · refine ab_iload_n (pc2 := 17) dX12_readsStatement_16 rfl rfl ?_
    refine ab_bipush (pc2 := 19) (v := 109) dX12_readsStatement_17 rfl ab_k_bipush_109 ?_
    refine ab_icmp_eq (tgt := 42) (pc2 := 22) dX12_readsStatement_19 (by decide) rfl hf (fun c4 hf => ?_) (fun c4 hf => ?_)
    · exact ab_weak (x_X12_readsStatement_b42 ht0 hf) (ab_leS (ab_leS (ab_leN (ab_leN ab_le0))))
    · refine ab_iload_n (pc2 := 23) dX12_readsStatement_22 rfl rfl ?_
      refine ab_bipush (pc2 := 25) (v := 99) dX12_readsStatement_23 rfl ab_k_bipush_99 ?_
      refine ab_icmp_eq (tgt := 42) (pc2 := 28) dX12_readsStatement_25 (by decide) rfl hf (fun c5 hf => ?_) (fun c5 hf => ?_)
      · exact ab_weak (x_X12_readsStatement_b42 ht0 hf) (ab_leS (ab_leS (ab_leN (ab_leN ab_le0))))
      · refine ab_iload_n (pc2 := 29) dX12_readsStatement_28 rfl rfl ?_
        refine ab_bipush (pc2 := 31) (v := 110) dX12_readsStatement_29 rfl ab_k_bipush_110 ?_
        refine ab_icmp_eq (tgt := 42) (pc2 := 34) dX12_readsStatement_31 (by decide) rfl hf (fun c6 hf => ?_) (fun c6 hf => ?_)
        · exact ab_weak (x_X12_readsStatement_b42 ht0 hf) (ab_leS (ab_leS (ab_leN (ab_leN ab_le0))))
        · refine ab_iload_n (pc2 := 35) dX12_readsStatement_34 rfl rfl ?_
          refine ab_bipush (pc2 := 37) (v := 108) dX12_readsStatement_35 rfl ab_k_bipush_108 ?_
          refine ab_icmp_eq (tgt := 42) (pc2 := 40) dX12_readsStatement_37 (by decide) rfl hf (fun c7 hf => ?_) (fun c7 hf => ?_)
          · exact ab_weak (x_X12_readsStatement_b42 ht0 hf) (ab_leS (ab_leS (ab_leN (ab_leN ab_le0))))
          · refine ab_iconst (pc2 := 41) (v := 0) dX12_readsStatement_40 rfl ab_k_iconst_0 ?_
            cases Option.some.inj hf
            exact ab_retI dX12_readsStatement_41 (Or.inr ⟨rfl, (Or.inl rfl)⟩) (Nat.le_refl _) (Nat.le_refl _) ⟨rfl, rfl, (Or.inl rfl)⟩
set_option maxHeartbeats 4000000 in
set_option maxRecDepth 100000 in
theorem m_X12_readsStatement {d : Nat} {t0 : Nat} {h : ab_HP} {r : (Int32 × ab_HP)} (ht0 : (ab_shp t0).1 = 5) (hf : f_X12_readsStatement t0 h = some r) : ab_MET mX12_readsStatement (d + 4) 0 0 [va_rf (some t0)] h (ab_Pb r.1 r.2) := ab_met (by decide +kernel) (by decide +kernel) (Nat.le_of_ble_eq_true rfl) rfl (x_X12_readsStatement ht0 hf)
set_option maxHeartbeats 4000000 in
set_option maxRecDepth 100000 in
theorem x_X12_comes {d : Nat} {t0 : Nat} {i1 : Int32} {h : ab_HP} {r : (Int32 × ab_HP)} (ht0 : (ab_shp t0).1 = 5) (hf : f_X12_comes t0 i1 h = some r) : ab_T mX12_comes (d + 0) 0 0 0 0 0 [some (va_rf (some t0)), some (.int i1), none, none] [] h (ab_Pb r.1 r.2) := by
  unfold f_X12_comes at hf
  refine ab_aload_n (x := _) (pc2 := 1) dX12_comes_0 rfl rfl ?_
  refine ab_getR (pc2 := 4) rfl ht0 fa_X12_37 dX12_comes_1 rfl (fun T1 => ?_)
  refine ab_iconst (pc2 := 5) (v := 0) dX12_comes_4 rfl ab_k_iconst_0 ?_
  obtain ⟨q2, hq2, hf⟩ := ab_bind hf
  obtain ⟨b3, hf⟩ := ab_guard hf
  refine ab_iald (pc2 := 6) hq2 (T1 q2 hq2) (ab_in_vp b3) dX12_comes_5 rfl ?_
  refine ab_istore_n (pc2 := 7) (lo2 := [some (va_rf _), some (.int _), some (.int _), none]) dX12_comes_6 rfl (by decide) rfl ?_
  refine ab_iload_n (pc2 := 8) dX12_comes_7 rfl rfl ?_
  rcases ab_cas hf with ⟨s4, hf⟩ | ⟨s4, hf⟩
  · refine ab_lswK (tgt := 190) dX12_comes_8 s4 (by decide +kernel) (by decide +kernel) (by decide) ?_
    refine ab_aload_n (x := _) (pc2 := 191) dX12_comes_190 rfl rfl ?_
    refine ab_getR (pc2 := 194) rfl ht0 fa_X12_16 dX12_comes_191 rfl (fun T5 => ?_)
    refine ab_iconst (pc2 := 195) (v := 1) dX12_comes_194 rfl ab_k_iconst_1 ?_
    refine ab_iload_n (pc2 := 196) dX12_comes_195 rfl rfl ?_
    obtain ⟨q6, hq6, hf⟩ := ab_bind hf
    obtain ⟨b7, hf⟩ := ab_guard hf
    have hf := ab_let_e hf
    refine ab_iast (pc2 := 197) hq6 (T5 q6 hq6) (ab_in_vp b7) dX12_comes_196 rfl ?_
    refine ab_iconst (pc2 := 198) (v := 1) dX12_comes_197 rfl ab_k_iconst_1 ?_
    cases Option.some.inj hf
    exact ab_retI dX12_comes_198 (Or.inr ⟨rfl, (Or.inr rfl)⟩) (Nat.le_refl _) (Nat.le_refl _) ⟨rfl, rfl, (Or.inr rfl)⟩
  rcases ab_cas hf with ⟨s9, hf⟩ | ⟨s9, hf⟩
  · refine ab_lswK (tgt := 52) dX12_comes_8 s9 (by decide +kernel) (by decide +kernel) (by decide) ?_
    refine ab_aload_n (x := _) (pc2 := 53) dX12_comes_52 rfl rfl ?_
    refine ab_getI (pc2 := 56) rfl ht0 fa_X12_105 (by decide) dX12_comes_53 rfl ?_
    refine ab_bipush (pc2 := 58) (v := 7) dX12_comes_56 rfl ab_k_bipush_7 ?_
    refine ab_icmp_gt (tgt := 73) (pc2 := 61) dX12_comes_58 (by decide) rfl hf (fun c10 hf => ?_) (fun c10 hf => ?_)
    · refine ab_iconst (pc2 := 74) (v := 0) dX12_comes_73 rfl ab_k_iconst_0 ?_
      cases Option.some.inj hf
      exact ab_retI dX12_comes_74 (Or.inr ⟨rfl, (Or.inl rfl)⟩) (Nat.le_refl _) (Nat.le_refl _) ⟨rfl, rfl, (Or.inl rfl)⟩
    · refine ab_aload_n (x := _) (pc2 := 62) dX12_comes_61 rfl rfl ?_
      refine ab_getR (pc2 := 65) rfl ht0 fa_X12_16 dX12_comes_62 rfl (fun T11 => ?_)
      refine ab_bipush (pc2 := 67) (v := 6) dX12_comes_65 rfl ab_k_bipush_6 ?_
      obtain ⟨q12, hq12, hf⟩ := ab_bind hf
      obtain ⟨b13, hf⟩ := ab_guard hf
      refine ab_iald (pc2 := 68) hq12 (T11 q12 hq12) (ab_in_vp b13) dX12_comes_67 rfl ?_
      refine ab_bipush (pc2 := 70) (v := 8) dX12_comes_68 rfl ab_k_bipush_8 ?_
      refine ab_icmp_ne (tgt := 75) (pc2 := 73) dX12_comes_70 (by decide) rfl hf (fun c14 hf => ?_) (fun c14 hf => ?_)
      · refine ab_bipush (pc2 := 77) (v := 7) dX12_comes_75 rfl ab_k_bipush_7 ?_
        refine ab_iconst (pc2 := 78) (v := 5) dX12_comes_77 rfl ab_k_iconst_5 ?_
        refine ab_aload_n (x := _) (pc2 := 79) dX12_comes_78 rfl rfl ?_
        refine ab_getR (pc2 := 82) rfl ht0 fa_X12_16 dX12_comes_79 rfl (fun T15 => ?_)
        refine ab_bipush (pc2 := 84) (v := 6) dX12_comes_82 rfl ab_k_bipush_6 ?_
        obtain ⟨q16, hq16, hf⟩ := ab_bind hf
        obtain ⟨b17, hf⟩ := ab_guard hf
        refine ab_iald (pc2 := 85) hq16 (T15 q16 hq16) (ab_in_vp b17) dX12_comes_84 rfl ?_
        refine ab_imul (pc2 := 86) dX12_comes_85 rfl ?_
        refine ab_iadd (pc2 := 87) dX12_comes_86 rfl ?_
        have hf := ab_let_e hf
        refine ab_istore_n (pc2 := 88) (lo2 := [some (va_rf _), some (.int _), some (.int _), some (.int _)]) dX12_comes_87 rfl (by decide) rfl ?_
        refine ab_aload_n (x := _) (pc2 := 89) dX12_comes_88 rfl rfl ?_
        refine ab_getR (pc2 := 92) rfl ht0 fa_X12_16 dX12_comes_89 rfl (fun T19 => ?_)
        refine ab_iload_n (pc2 := 93) dX12_comes_92 rfl rfl ?_
        refine ab_iconst (pc2 := 94) (v := 0) dX12_comes_93 rfl ab_k_iconst_0 ?_
        refine ab_iadd (pc2 := 95) dX12_comes_94 rfl ?_
        refine ab_aload_n (x := _) (pc2 := 96) dX12_comes_95 rfl rfl ?_
        refine ab_getI (pc2 := 99) rfl ht0 fa_X12_105 (by decide) dX12_comes_96 rfl ?_
        obtain ⟨q20, hq20, hf⟩ := ab_bind hf
        obtain ⟨b21, hf⟩ := ab_guard hf
        have hf := ab_let_e hf
        refine ab_iast (pc2 := 100) hq20 (T19 q20 hq20) (ab_in_vp b21) dX12_comes_99 rfl ?_
        refine ab_aload_n (x := _) (pc2 := 101) dX12_comes_100 rfl rfl ?_
        refine ab_getR (pc2 := 104) rfl ht0 fa_X12_16 dX12_comes_101 rfl (fun T23 => ?_)
        refine ab_iload_n (pc2 := 105) dX12_comes_104 rfl rfl ?_
        refine ab_iconst (pc2 := 106) (v := 1) dX12_comes_105 rfl ab_k_iconst_1 ?_
        refine ab_iadd (pc2 := 107) dX12_comes_106 rfl ?_
        refine ab_aload_n (x := _) (pc2 := 108) dX12_comes_107 rfl rfl ?_
        refine ab_getI (pc2 := 111) rfl ht0 fa_X12_108 (by decide) dX12_comes_108 rfl ?_
        obtain ⟨q24, hq24, hf⟩ := ab_bind hf
        obtain ⟨b25, hf⟩ := ab_guard hf
        have hf := ab_let_e hf
        refine ab_iast (pc2 := 112) hq24 (T23 q24 hq24) (ab_in_vp b25) dX12_comes_111 rfl ?_
        refine ab_aload_n (x := _) (pc2 := 113) dX12_comes_112 rfl rfl ?_
        refine ab_getR (pc2 := 116) rfl ht0 fa_X12_16 dX12_comes_113 rfl (fun T27 => ?_)
        refine ab_iload_n (pc2 := 117) dX12_comes_116 rfl rfl ?_
        refine ab_iconst (pc2 := 118) (v := 2) dX12_comes_117 rfl ab_k_iconst_2 ?_
        refine ab_iadd (pc2 := 119) dX12_comes_118 rfl ?_
        refine ab_iload_n (pc2 := 120) dX12_comes_119 rfl rfl ?_
        obtain ⟨q28, hq28, hf⟩ := ab_bind hf
        obtain ⟨b29, hf⟩ := ab_guard hf
        have hf := ab_let_e hf
        refine ab_iast (pc2 := 121) hq28 (T27 q28 hq28) (ab_in_vp b29) dX12_comes_120 rfl ?_
        refine ab_aload_n (x := _) (pc2 := 122) dX12_comes_121 rfl rfl ?_
        refine ab_getR (pc2 := 125) rfl ht0 fa_X12_16 dX12_comes_122 rfl (fun T31 => ?_)
        refine ab_iload_n (pc2 := 126) dX12_comes_125 rfl rfl ?_
        refine ab_iconst (pc2 := 127) (v := 3) dX12_comes_126 rfl ab_k_iconst_3 ?_
        refine ab_iadd (pc2 := 128) dX12_comes_127 rfl ?_
        refine ab_aload_n (x := _) (pc2 := 129) dX12_comes_128 rfl rfl ?_
        refine ab_getR (pc2 := 132) rfl ht0 fa_X12_37 dX12_comes_129 rfl (fun T32 => ?_)
        refine ab_iconst (pc2 := 133) (v := 1) dX12_comes_132 rfl ab_k_iconst_1 ?_
        obtain ⟨q33, hq33, hf⟩ := ab_bind hf
        obtain ⟨b34, hf⟩ := ab_guard hf
        refine ab_iald (pc2 := 134) hq33 (T32 q33 hq33) (ab_in_vp b34) dX12_comes_133 rfl ?_
        obtain ⟨q35, hq35, hf⟩ := ab_bind hf
        obtain ⟨b36, hf⟩ := ab_guard hf
        have hf := ab_let_e hf
        refine ab_iast (pc2 := 135) hq35 (T31 q35 hq35) (ab_in_vp b36) dX12_comes_134 rfl ?_
        refine ab_aload_n (x := _) (pc2 := 136) dX12_comes_135 rfl rfl ?_
        refine ab_getR (pc2 := 139) rfl ht0 fa_X12_16 dX12_comes_136 rfl (fun T38 => ?_)
        refine ab_iload_n (pc2 := 140) dX12_comes_139 rfl rfl ?_
        refine ab_iconst (pc2 := 141) (v := 4) dX12_comes_140 rfl ab_k_iconst_4 ?_
        refine ab_iadd (pc2 := 142) dX12_comes_141 rfl ?_
        refine ab_aload_n (x := _) (pc2 := 143) dX12_comes_142 rfl rfl ?_
        refine ab_getI (pc2 := 146) rfl ht0 fa_X12_117 (by decide) dX12_comes_143 rfl ?_
        obtain ⟨q39, hq39, hf⟩ := ab_bind hf
        obtain ⟨b40, hf⟩ := ab_guard hf
        have hf := ab_let_e hf
        refine ab_iast (pc2 := 147) hq39 (T38 q39 hq39) (ab_in_vp b40) dX12_comes_146 rfl ?_
        refine ab_aload_n (x := _) (pc2 := 148) dX12_comes_147 rfl rfl ?_
        refine ab_getR (pc2 := 151) rfl ht0 fa_X12_16 dX12_comes_148 rfl (fun T42 => ?_)
        refine ab_bipush (pc2 := 153) (v := 6) dX12_comes_151 rfl ab_k_bipush_6 ?_
        refine ab_dup2 (pc2 := 154) dX12_comes_153 rfl rfl (ab_rf1 _) ?_
        obtain ⟨q43, hq43, hf⟩ := ab_bind hf
        obtain ⟨b44, hf⟩ := ab_guard hf
        refine ab_iald (pc2 := 155) hq43 (T42 q43 hq43) (ab_in_vp b44) dX12_comes_154 rfl ?_
        refine ab_iconst (pc2 := 156) (v := 1) dX12_comes_155 rfl ab_k_iconst_1 ?_
        refine ab_iadd (pc2 := 157) dX12_comes_156 rfl ?_
        obtain ⟨b45, hf⟩ := ab_guard hf
        have hf := ab_let_e hf
        refine ab_iast (pc2 := 158) hq43 (T42 q43 hq43) (ab_in_vp b45) dX12_comes_157 rfl ?_
        refine ab_iconst (pc2 := 159) (v := 1) dX12_comes_158 rfl ab_k_iconst_1 ?_
        cases Option.some.inj hf
        exact ab_retI dX12_comes_159 (Or.inr ⟨rfl, (Or.inr rfl)⟩) (Nat.le_refl _) (Nat.le_refl _) ⟨rfl, rfl, (Or.inr rfl)⟩
      · refine ab_iconst (pc2 := 74) (v := 0) dX12_comes_73 rfl ab_k_iconst_0 ?_
        cases Option.some.inj hf
        exact ab_retI dX12_comes_74 (Or.inr ⟨rfl, (Or.inl rfl)⟩) (Nat.le_refl _) (Nat.le_refl _) ⟨rfl, rfl, (Or.inl rfl)⟩
  rcases ab_cas hf with ⟨s47, hf⟩ | ⟨s47, hf⟩
  · refine ab_lswK (tgt := 199) dX12_comes_8 s47 (by decide +kernel) (by decide +kernel) (by decide) ?_
    refine ab_aload_n (x := _) (pc2 := 200) dX12_comes_199 rfl rfl ?_
    refine ab_getR (pc2 := 203) rfl ht0 fa_X12_16 dX12_comes_200 rfl (fun T48 => ?_)
    refine ab_iconst (pc2 := 204) (v := 3) dX12_comes_203 rfl ab_k_iconst_3 ?_
    refine ab_iload_n (pc2 := 205) dX12_comes_204 rfl rfl ?_
    obtain ⟨q49, hq49, hf⟩ := ab_bind hf
    obtain ⟨b50, hf⟩ := ab_guard hf
    have hf := ab_let_e hf
    refine ab_iast (pc2 := 206) hq49 (T48 q49 hq49) (ab_in_vp b50) dX12_comes_205 rfl ?_
    refine ab_iload_n (pc2 := 207) dX12_comes_206 rfl rfl ?_
    refine ab_iconst (pc2 := 208) (v := 3) dX12_comes_207 rfl ab_k_iconst_3 ?_
    refine ab_icmp_ge (tgt := 215) (pc2 := 211) dX12_comes_208 (by decide) rfl hf (fun c52 hf => ?_) (fun c52 hf => ?_)
    · refine ab_iconst (pc2 := 216) (v := 0) dX12_comes_215 rfl ab_k_iconst_0 ?_
      cases Option.some.inj hf
      exact ab_retI dX12_comes_216 (Or.inr ⟨rfl, (Or.inl rfl)⟩) (Nat.le_refl _) (Nat.le_refl _) ⟨rfl, rfl, (Or.inl rfl)⟩
    · refine ab_iconst (pc2 := 212) (v := 1) dX12_comes_211 rfl ab_k_iconst_1 ?_
      refine ab_goto (tgt := 216) dX12_comes_212 (by decide) ?_
      cases Option.some.inj hf
      exact ab_retI dX12_comes_216 (Or.inr ⟨rfl, (Or.inr rfl)⟩) (Nat.le_refl _) (Nat.le_refl _) ⟨rfl, rfl, (Or.inr rfl)⟩
  rcases ab_cas hf with ⟨s53, hf⟩ | ⟨s53, hf⟩
  · refine ab_lswK (tgt := 160) dX12_comes_8 s53 (by decide +kernel) (by decide +kernel) (by decide) ?_
    refine ab_aload_n (x := _) (pc2 := 161) dX12_comes_160 rfl rfl ?_
    refine ab_getR (pc2 := 164) rfl ht0 fa_X12_16 dX12_comes_161 rfl (fun T54 => ?_)
    refine ab_iconst (pc2 := 165) (v := 0) dX12_comes_164 rfl ab_k_iconst_0 ?_
    obtain ⟨q55, hq55, hf⟩ := ab_bind hf
    obtain ⟨b56, hf⟩ := ab_guard hf
    refine ab_iald (pc2 := 166) hq55 (T54 q55 hq55) (ab_in_vp b56) dX12_comes_165 rfl ?_
    refine ab_iload_n (pc2 := 167) dX12_comes_166 rfl rfl ?_
    refine ab_ishr (pc2 := 168) dX12_comes_167 rfl ?_
    refine ab_iconst (pc2 := 169) (v := 1) dX12_comes_168 rfl ab_k_iconst_1 ?_
    refine ab_iand (pc2 := 170) dX12_comes_169 rfl ?_
    refine ab_iconst (pc2 := 171) (v := 1) dX12_comes_170 rfl ab_k_iconst_1 ?_
    refine ab_icmp_ne (tgt := 176) (pc2 := 174) dX12_comes_171 (by decide) rfl hf (fun c57 hf => ?_) (fun c57 hf => ?_)
    · refine ab_aload_n (x := _) (pc2 := 177) dX12_comes_176 rfl rfl ?_
      refine ab_getR (pc2 := 180) rfl ht0 fa_X12_16 dX12_comes_177 rfl (fun T58 => ?_)
      refine ab_iconst (pc2 := 181) (v := 0) dX12_comes_180 rfl ab_k_iconst_0 ?_
      refine ab_dup2 (pc2 := 182) dX12_comes_181 rfl rfl (ab_rf1 _) ?_
      obtain ⟨q59, hq59, hf⟩ := ab_bind hf
      obtain ⟨b60, hf⟩ := ab_guard hf
      refine ab_iald (pc2 := 183) hq59 (T58 q59 hq59) (ab_in_vp b60) dX12_comes_182 rfl ?_
      refine ab_iconst (pc2 := 184) (v := 1) dX12_comes_183 rfl ab_k_iconst_1 ?_
      refine ab_iload_n (pc2 := 185) dX12_comes_184 rfl rfl ?_
      refine ab_ishl (pc2 := 186) dX12_comes_185 rfl ?_
      refine ab_ior (pc2 := 187) dX12_comes_186 rfl ?_
      obtain ⟨b61, hf⟩ := ab_guard hf
      have hf := ab_let_e hf
      refine ab_iast (pc2 := 188) hq59 (T58 q59 hq59) (ab_in_vp b61) dX12_comes_187 rfl ?_
      refine ab_iconst (pc2 := 189) (v := 1) dX12_comes_188 rfl ab_k_iconst_1 ?_
      cases Option.some.inj hf
      exact ab_retI dX12_comes_189 (Or.inr ⟨rfl, (Or.inr rfl)⟩) (Nat.le_refl _) (Nat.le_refl _) ⟨rfl, rfl, (Or.inr rfl)⟩
    · refine ab_iconst (pc2 := 175) (v := 0) dX12_comes_174 rfl ab_k_iconst_0 ?_
      cases Option.some.inj hf
      exact ab_retI dX12_comes_175 (Or.inr ⟨rfl, (Or.inl rfl)⟩) (Nat.le_refl _) (Nat.le_refl _) ⟨rfl, rfl, (Or.inl rfl)⟩
  refine ab_lsw (tgt := 217) (off := 209) dX12_comes_8 (by decide +kernel) (by show Op.lookupswitch.offset [(99, 182), (100, 44), (108, 191), (109, 152)] _ _ = _; rw [lv_osw s4 (by decide), lv_osw s9 (by decide), lv_osw s47 (by decide), lv_osw s53 (by decide)]; rfl) (by decide) ?_
  refine ab_aload_n (x := _) (pc2 := 218) dX12_comes_217 rfl rfl ?_
  refine ab_getR (pc2 := 221) rfl ht0 fa_X12_16 dX12_comes_218 rfl (fun T63 => ?_)
  refine ab_iconst (pc2 := 222) (v := 4) dX12_comes_221 rfl ab_k_iconst_4 ?_
  refine ab_iload_n (pc2 := 223) dX12_comes_222 rfl rfl ?_
  obtain ⟨q64, hq64, hf⟩ := ab_bind hf
  obtain ⟨b65, hf⟩ := ab_guard hf
  have hf := ab_let_e hf
  refine ab_iast (pc2 := 224) hq64 (T63 q64 hq64) (ab_in_vp b65) dX12_comes_223 rfl ?_
  refine ab_aload_n (x := _) (pc2 := 225) dX12_comes_224 rfl rfl ?_
  refine ab_getR (pc2 := 228) rfl ht0 fa_X12_16 dX12_comes_225 rfl (fun T67 => ?_)
  refine ab_iconst (pc2 := 229) (v := 5) dX12_comes_228 rfl ab_k_iconst_5 ?_
  refine ab_aload_n (x := _) (pc2 := 230) dX12_comes_229 rfl rfl ?_
  refine ab_getR (pc2 := 233) rfl ht0 fa_X12_37 dX12_comes_230 rfl (fun T68 => ?_)
  refine ab_iconst (pc2 := 234) (v := 1) dX12_comes_233 rfl ab_k_iconst_1 ?_
  obtain ⟨q69, hq69, hf⟩ := ab_bind hf
  obtain ⟨b70, hf⟩ := ab_guard hf
  refine ab_iald (pc2 := 235) hq69 (T68 q69 hq69) (ab_in_vp b70) dX12_comes_234 rfl ?_
  obtain ⟨q71, hq71, hf⟩ := ab_bind hf
  obtain ⟨b72, hf⟩ := ab_guard hf
  have hf := ab_let_e hf
  refine ab_iast (pc2 := 236) hq71 (T67 q71 hq71) (ab_in_vp b72) dX12_comes_235 rfl ?_
  refine ab_iconst (pc2 := 237) (v := 1) dX12_comes_236 rfl ab_k_iconst_1 ?_
  cases Option.some.inj hf
  exact ab_retI dX12_comes_237 (Or.inr ⟨rfl, (Or.inr rfl)⟩) (Nat.le_refl _) (Nat.le_refl _) ⟨rfl, rfl, (Or.inr rfl)⟩
set_option maxHeartbeats 4000000 in
set_option maxRecDepth 100000 in
theorem m_X12_comes {d : Nat} {t0 : Nat} {i1 : Int32} {h : ab_HP} {r : (Int32 × ab_HP)} (ht0 : (ab_shp t0).1 = 5) (hf : f_X12_comes t0 i1 h = some r) : ab_MET mX12_comes (d + 0) 0 0 [va_rf (some t0), .int i1] h (ab_Pb r.1 r.2) := ab_met (by decide +kernel) (by decide +kernel) (Nat.le_of_ble_eq_true rfl) rfl (x_X12_comes ht0 hf)
set_option maxHeartbeats 4000000 in
set_option maxRecDepth 100000 in
theorem x_X12_town_l154 {d : Nat} {t0 : Nat} {r : (Int32 × ab_HP)} (ht0 : (ab_shp t0).1 = 5) : ∀ (n : Nat) (i3 : Int32) (i4 : Int32) (h : ab_HP), f_X12_town_l154 t0 n i3 i4 h = some r → ab_T mX12_town (d + 5) 0 0 0 0 154 [some (va_rf (some t0)), none, none, some (.int i3), some (.int i4), none, none] [] h (ab_Pi r.1 r.2) := by
  intro n
  induction n with
  | zero =>
    intro i3 i4 h hf
    rw [f_X12_town_l154] at hf
    cases hf
  | succ n ih =>
    intro i3 i4 h hf
    rw [f_X12_town_l154] at hf
    refine ab_iload (pc2 := 156) dX12_town_154 rfl rfl ?_
    refine ab_bipush (pc2 := 158) (v := 47) dX12_town_156 rfl ab_k_bipush_47 ?_
    refine ab_icmp_ge (tgt := 181) (pc2 := 161) dX12_town_158 (by decide) rfl hf (fun c29 hf => ?_) (fun c29 hf => ?_)
    · refine ab_iload_n (pc2 := 182) dX12_town_181 rfl rfl ?_
      cases Option.some.inj hf
      exact ab_retI dX12_town_182 (Or.inl rfl) (Nat.le_refl _) (Nat.le_refl _) ⟨rfl, rfl⟩
    · refine ab_aload_n (x := _) (pc2 := 162) dX12_town_161 rfl rfl ?_
      refine ab_getR (pc2 := 165) rfl ht0 fa_X12_9 dX12_town_162 rfl (fun T30 => ?_)
      refine ab_iload (pc2 := 167) dX12_town_165 rfl rfl ?_
      refine ab_aload_n (x := _) (pc2 := 168) dX12_town_167 rfl rfl ?_
      refine ab_getR (pc2 := 171) rfl ht0 fa_X12_16 dX12_town_168 rfl (fun T31 => ?_)
      refine ab_iload (pc2 := 173) dX12_town_171 rfl rfl ?_
      obtain ⟨q32, hq32, hf⟩ := ab_bind hf
      obtain ⟨b33, hf⟩ := ab_guard hf
      refine ab_iald (pc2 := 174) hq32 (T31 q32 hq32) (ab_in_vp b33) dX12_town_173 rfl ?_
      obtain ⟨q34, hq34, hf⟩ := ab_bind hf
      obtain ⟨b35, hf⟩ := ab_guard hf
      have hf := ab_let_e hf
      refine ab_iast (pc2 := 175) hq34 (T30 q34 hq34) (ab_in_vp b35) dX12_town_174 rfl ?_
      refine ab_iinc (pc2 := 178) (v := _ + 1) (lo2 := [some (va_rf _), none, none, some (.int _), some (.int _), none, none]) dX12_town_175 rfl rfl rfl (by decide) rfl ?_
      refine ab_goto (tgt := 154) dX12_town_178 (by decide) ?_
      exact ab_weak (ih _ _ _ hf) (ab_leS (ab_leN (ab_leN (ab_leS (ab_leS (ab_leN (ab_leN ab_le0)))))))
set_option maxHeartbeats 4000000 in
set_option maxRecDepth 100000 in
theorem x_X12_town_l103 {d : Nat} {t0 : Nat} {r : (Int32 × ab_HP)} (ht0 : (ab_shp t0).1 = 5) : ∀ (n : Nat) (i3 : Int32) (h : ab_HP), f_X12_town_l103 t0 n i3 h = some r → ab_T mX12_town (d + 5) 0 0 0 0 103 [some (va_rf (some t0)), none, none, some (.int i3), none, none, none] [] h (ab_Pi r.1 r.2) := by
  intro n
  induction n with
  | zero =>
    intro i3 h hf
    rw [f_X12_town_l103] at hf
    cases hf
  | succ n ih =>
    intro i3 h hf
    rw [f_X12_town_l103] at hf
    refine ab_aload_n (x := _) (pc2 := 104) dX12_town_103 rfl rfl ?_
    refine ab_getI (pc2 := 107) rfl ht0 fa_X12_73 (by decide) dX12_town_104 rfl ?_
    refine ab_aload_n (x := _) (pc2 := 108) dX12_town_107 rfl rfl ?_
    refine ab_getI (pc2 := 111) rfl ht0 fa_X12_76 (by decide) dX12_town_108 rfl ?_
    refine ab_icmp_ge (tgt := 151) (pc2 := 114) dX12_town_111 (by decide) rfl hf (fun c22 hf => ?_) (fun c22 hf => ?_)
    · refine ab_iconst (pc2 := 152) (v := 0) dX12_town_151 rfl ab_k_iconst_0 ?_
      refine ab_istore (pc2 := 154) (lo2 := [some (va_rf _), none, none, some (.int _), some (.int _), none, none]) dX12_town_152 rfl (by decide) rfl ?_
      exact ab_weak (x_X12_town_l154 ht0 _ _ _ _ hf) (ab_leS (ab_leN (ab_leN (ab_leS (ab_leS (ab_leN (ab_leN ab_le0)))))))
    · refine ab_aload_n (x := _) (pc2 := 115) dX12_town_114 rfl rfl ?_
      refine ab_getI (pc2 := 118) rfl ht0 fa_X12_73 (by decide) dX12_town_115 rfl ?_
      refine ab_istore (pc2 := 120) (lo2 := [some (va_rf _), none, none, some (.int _), some (.int _), none, none]) dX12_town_118 rfl (by decide) rfl ?_
      refine ab_aload_n (x := _) (pc2 := 121) dX12_town_120 rfl rfl ?_
      obtain ⟨w23, ew23, hf⟩ := ab_bind hf
      refine ab_callV (pc2 := 124) (st := []) rfl ht0 (by decide) (m_X12_here (d := (d + 4)) ht0 ew23) mf_X12_here tw_106 tw_105 ts_X12_here (Or.inl (by decide +kernel)) dX12_town_121 rfl (by omega) (Nat.le_refl _) (Nat.le_refl _) rfl (Nat.le_of_ble_eq_true rfl) (fun v u hp => ?_)
      obtain ⟨rfl, rfl⟩ := hp
      show ab_T _ _ _ _ 0 0 124 _ (.int _ :: []) _ _
      refine ab_istore (pc2 := 126) (lo2 := [some (va_rf _), none, none, some (.int _), some (.int _), some (.int _), none]) dX12_town_124 rfl (by decide) rfl ?_
      refine ab_aload_n (x := _) (pc2 := 127) dX12_town_126 rfl rfl ?_
      obtain ⟨w24, ew24, hf⟩ := ab_bind hf
      refine ab_callV (pc2 := 130) (st := []) rfl ht0 (by decide) (m_X12_readsStatement (d := (d + 0)) ht0 ew24) mf_X12_readsStatement tw_124 tw_123 ts_X12_readsStatement (Or.inl (by decide +kernel)) dX12_town_127 rfl (by omega) (Nat.le_refl _) (Nat.le_refl _) rfl (Nat.le_of_ble_eq_true rfl) (fun v u hp => ?_)
      obtain ⟨rfl, rfl, z25⟩ := hp
      show ab_T _ _ _ _ 0 0 130 _ (.int _ :: []) _ _
      refine ab_istore (pc2 := 132) (lo2 := [some (va_rf _), none, none, some (.int _), some (.int _), some (.int _), some (.int _)]) dX12_town_130 rfl (by decide) rfl ?_
      refine ab_aload_n (x := _) (pc2 := 133) dX12_town_132 rfl rfl ?_
      refine ab_iload (pc2 := 135) dX12_town_133 rfl rfl ?_
      obtain ⟨w26, ew26, hf⟩ := ab_bind hf
      refine ab_callV (pc2 := 138) (st := []) rfl ht0 (by decide) (m_X12_comes (d := (d + 4)) ht0 ew26) mf_X12_comes tw_126 tw_125 ts_X12_comes (Or.inl (by decide +kernel)) dX12_town_135 rfl (by omega) (Nat.le_refl _) (Nat.le_refl _) rfl (Nat.le_of_ble_eq_true rfl) (fun v u hp => ?_)
      obtain ⟨rfl, rfl, z27⟩ := hp
      show ab_T _ _ _ _ 0 0 138 _ (.int _ :: []) _ _
      refine ab_if_ne (tgt := 148) (pc2 := 141) dX12_town_138 (by decide) rfl hf (fun c28 hf => ?_) (fun c28 hf => ?_)
      · refine ab_goto (tgt := 103) dX12_town_148 (by decide) ?_
        exact ab_weak (ih _ _ hf) (ab_leS (ab_leN (ab_leN (ab_leS (ab_leN (ab_leN (ab_leN ab_le0)))))))
      · refine ab_sipush (pc2 := 144) (v := (-2000)) dX12_town_141 rfl ab_k_sipush_m2000 ?_
        refine ab_iload (pc2 := 146) dX12_town_144 rfl rfl ?_
        refine ab_isub (pc2 := 147) dX12_town_146 rfl ?_
        cases Option.some.inj hf
        exact ab_retI dX12_town_147 (Or.inl rfl) (Nat.le_refl _) (Nat.le_refl _) ⟨rfl, rfl⟩
set_option maxHeartbeats 4000000 in
set_option maxRecDepth 100000 in
theorem x_X12_town_l71 {d : Nat} {t0 : Nat} {r : (Int32 × ab_HP)} (ht0 : (ab_shp t0).1 = 5) : ∀ (n : Nat) (i3 : Int32) (i4 : Int32) (h : ab_HP), f_X12_town_l71 t0 n i3 i4 h = some r → ab_T mX12_town (d + 5) 0 0 0 0 71 [some (va_rf (some t0)), none, none, some (.int i3), some (.int i4), none, none] [] h (ab_Pi r.1 r.2) := by
  intro n
  induction n with
  | zero =>
    intro i3 i4 h hf
    rw [f_X12_town_l71] at hf
    cases hf
  | succ n ih =>
    intro i3 i4 h hf
    rw [f_X12_town_l71] at hf
    refine ab_iload (pc2 := 73) dX12_town_71 rfl rfl ?_
    refine ab_bipush (pc2 := 75) (v := 47) dX12_town_73 rfl ab_k_bipush_47 ?_
    refine ab_icmp_ge (tgt := 98) (pc2 := 78) dX12_town_75 (by decide) rfl hf (fun c13 hf => ?_) (fun c13 hf => ?_)
    · refine ab_aload_n (x := _) (pc2 := 99) dX12_town_98 rfl rfl ?_
      refine ab_iconst (pc2 := 100) (v := 0) dX12_town_99 rfl ab_k_iconst_0 ?_
      have hf := ab_let_e hf
      refine ab_putI (pc2 := 103) rfl ht0 fa_X12_73 (Or.inl rfl) (fun z => by cases z) dX12_town_100 rfl ?_
      exact ab_weak (x_X12_town_l103 ht0 _ _ _ hf) (ab_leS (ab_leN (ab_leN (ab_leS (ab_leN (ab_leN (ab_leN ab_le0)))))))
    · refine ab_aload_n (x := _) (pc2 := 79) dX12_town_78 rfl rfl ?_
      refine ab_getR (pc2 := 82) rfl ht0 fa_X12_16 dX12_town_79 rfl (fun T15 => ?_)
      refine ab_iload (pc2 := 84) dX12_town_82 rfl rfl ?_
      refine ab_aload_n (x := _) (pc2 := 85) dX12_town_84 rfl rfl ?_
      refine ab_getR (pc2 := 88) rfl ht0 fa_X12_9 dX12_town_85 rfl (fun T16 => ?_)
      refine ab_iload (pc2 := 90) dX12_town_88 rfl rfl ?_
      obtain ⟨q17, hq17, hf⟩ := ab_bind hf
      obtain ⟨b18, hf⟩ := ab_guard hf
      refine ab_iald (pc2 := 91) hq17 (T16 q17 hq17) (ab_in_vp b18) dX12_town_90 rfl ?_
      obtain ⟨q19, hq19, hf⟩ := ab_bind hf
      obtain ⟨b20, hf⟩ := ab_guard hf
      have hf := ab_let_e hf
      refine ab_iast (pc2 := 92) hq19 (T15 q19 hq19) (ab_in_vp b20) dX12_town_91 rfl ?_
      refine ab_iinc (pc2 := 95) (v := _ + 1) (lo2 := [some (va_rf _), none, none, some (.int _), some (.int _), none, none]) dX12_town_92 rfl rfl rfl (by decide) rfl ?_
      refine ab_goto (tgt := 71) dX12_town_95 (by decide) ?_
      exact ab_weak (ih _ _ _ hf) (ab_leS (ab_leN (ab_leN (ab_leS (ab_leS (ab_leN (ab_leN ab_le0)))))))
set_option maxHeartbeats 4000000 in
set_option maxRecDepth 100000 in
theorem x_X12_town_l38 {d : Nat} {t0 : Nat} {r : (Int32 × ab_HP)} (ht0 : (ab_shp t0).1 = 5) : ∀ (n : Nat) (i3 : Int32) (h : ab_HP), f_X12_town_l38 t0 n i3 h = some r → ab_T mX12_town (d + 5) 0 0 0 0 38 [some (va_rf (some t0)), none, none, some (.int i3), none, none, none] [] h (ab_Pi r.1 r.2) := by
  intro n
  induction n with
  | zero =>
    intro i3 h hf
    rw [f_X12_town_l38] at hf
    cases hf
  | succ n ih =>
    intro i3 h hf
    rw [f_X12_town_l38] at hf
    refine ab_aload_n (x := _) (pc2 := 39) dX12_town_38 rfl rfl ?_
    obtain ⟨w9, ew9, hf⟩ := ab_bind hf
    refine ab_callV (pc2 := 42) (st := []) rfl ht0 (by decide) (m_X12_readsStatement (d := (d + 0)) ht0 ew9) mf_X12_readsStatement tw_124 tw_123 ts_X12_readsStatement (Or.inl (by decide +kernel)) dX12_town_39 rfl (by omega) (Nat.le_refl _) (Nat.le_refl _) rfl (Nat.le_of_ble_eq_true rfl) (fun v u hp => ?_)
    obtain ⟨rfl, rfl, z10⟩ := hp
    show ab_T _ _ _ _ 0 0 42 _ (.int _ :: []) _ _
    refine ab_if_ne (tgt := 54) (pc2 := 45) dX12_town_42 (by decide) rfl hf (fun c11 hf => ?_) (fun c11 hf => ?_)
    · refine ab_iinc (pc2 := 57) (v := _ + 1) (lo2 := [some (va_rf _), none, none, some (.int _), none, none, none]) dX12_town_54 rfl rfl rfl (by decide) rfl ?_
      refine ab_aload_n (x := _) (pc2 := 58) dX12_town_57 rfl rfl ?_
      refine ab_getI (pc2 := 61) rfl ht0 fa_X12_73 (by decide) dX12_town_58 rfl ?_
      refine ab_aload_n (x := _) (pc2 := 62) dX12_town_61 rfl rfl ?_
      refine ab_getI (pc2 := 65) rfl ht0 fa_X12_76 (by decide) dX12_town_62 rfl ?_
      refine ab_icmp_lt (tgt := 38) (pc2 := 68) dX12_town_65 (by decide) rfl hf (fun c12 hf => ?_) (fun c12 hf => ?_)
      · exact ab_weak (ih _ _ hf) (ab_leS (ab_leN (ab_leN (ab_leS (ab_leN (ab_leN (ab_leN ab_le0)))))))
      · refine ab_iconst (pc2 := 69) (v := 0) dX12_town_68 rfl ab_k_iconst_0 ?_
        refine ab_istore (pc2 := 71) (lo2 := [some (va_rf _), none, none, some (.int _), some (.int _), none, none]) dX12_town_69 rfl (by decide) rfl ?_
        exact ab_weak (x_X12_town_l71 ht0 _ _ _ _ hf) (ab_leS (ab_leN (ab_leN (ab_leS (ab_leS (ab_leN (ab_leN ab_le0)))))))
    · refine ab_sipush (pc2 := 48) (v := (-1000)) dX12_town_45 rfl ab_k_sipush_m1000 ?_
      refine ab_aload_n (x := _) (pc2 := 49) dX12_town_48 rfl rfl ?_
      refine ab_getI (pc2 := 52) rfl ht0 fa_X12_73 (by decide) dX12_town_49 rfl ?_
      refine ab_isub (pc2 := 53) dX12_town_52 rfl ?_
      cases Option.some.inj hf
      exact ab_retI dX12_town_53 (Or.inl rfl) (Nat.le_refl _) (Nat.le_refl _) ⟨rfl, rfl⟩
set_option maxHeartbeats 4000000 in
set_option maxRecDepth 100000 in
theorem x_X12_town {d : Nat} {t0 : Nat} {i1 : Int32} {h : ab_HP} {r : (Int32 × ab_HP)} (ht0 : (ab_shp t0).1 = 5) (hf : f_X12_town t0 i1 h = some r) : ab_T mX12_town (d + 5) 0 0 0 0 0 [some (va_rf (some t0)), some (.int i1), none, none, none, none, none] [] h (ab_Pi r.1 r.2) := by
  unfold f_X12_town at hf
  refine ab_aload_n (x := _) (pc2 := 1) dX12_town_0 rfl rfl ?_
  refine ab_iload_n (pc2 := 2) dX12_town_1 rfl rfl ?_
  refine ab_iconst (pc2 := 3) (v := 0) dX12_town_2 rfl ab_k_iconst_0 ?_
  obtain ⟨w1, ew1, hf⟩ := ab_bind hf
  refine ab_callV (pc2 := 6) (st := []) rfl ht0 (by decide) (m_X12_wrongRow (d := (d + 2)) ht0 ew1) mf_X12_wrongRow tw_122 tw_121 ts_X12_wrongRow (Or.inl (by decide +kernel)) dX12_town_3 rfl (by omega) (Nat.le_refl _) (Nat.le_refl _) rfl (Nat.le_of_ble_eq_true rfl) (fun v u hp => ?_)
  obtain ⟨rfl, rfl⟩ := hp
  show ab_T _ _ _ _ 0 0 6 _ (.int _ :: []) _ _
  refine ab_istore_n (pc2 := 7) (lo2 := [some (va_rf _), some (.int _), some (.int _), none, none, none, none]) dX12_town_6 rfl (by decide) rfl ?_
  refine ab_iload_n (pc2 := 8) dX12_town_7 rfl rfl ?_
  refine ab_if_eq (tgt := 13) (pc2 := 11) dX12_town_8 (by decide) rfl hf (fun c2 hf => ?_) (fun c2 hf => ?_)
  · refine ab_aload_n (x := _) (pc2 := 14) dX12_town_13 rfl rfl ?_
    refine ab_bipush (pc2 := 16) (v := 100) dX12_town_14 rfl ab_k_bipush_100 ?_
    refine ab_iload_n (pc2 := 17) dX12_town_16 rfl rfl ?_
    refine ab_imul (pc2 := 18) dX12_town_17 rfl ?_
    have hf := ab_let_e hf
    refine ab_putI (pc2 := 21) rfl ht0 fa_X12_79 (Or.inl rfl) (fun z => by cases z) dX12_town_18 rfl ?_
    refine ab_aload_n (x := _) (pc2 := 22) dX12_town_21 rfl rfl ?_
    refine ab_aload_n (x := _) (pc2 := 23) dX12_town_22 rfl rfl ?_
    refine ab_getR (pc2 := 26) rfl ht0 fa_X12_25 dX12_town_23 rfl (fun T4 => ?_)
    refine ab_iload_n (pc2 := 27) dX12_town_26 rfl rfl ?_
    obtain ⟨q5, hq5, hf⟩ := ab_bind hf
    obtain ⟨b6, hf⟩ := ab_guard hf
    refine ab_iald (pc2 := 28) hq5 (T4 q5 hq5) (ab_in_vp b6) dX12_town_27 rfl ?_
    have hf := ab_let_e hf
    refine ab_putI (pc2 := 31) rfl ht0 fa_X12_76 (Or.inl rfl) (fun z => by cases z) dX12_town_28 rfl ?_
    refine ab_aload_n (x := _) (pc2 := 32) dX12_town_31 rfl rfl ?_
    refine ab_iconst (pc2 := 33) (v := 0) dX12_town_32 rfl ab_k_iconst_0 ?_
    have hf := ab_let_e hf
    refine ab_putI (pc2 := 36) rfl ht0 fa_X12_73 (Or.inl rfl) (fun z => by cases z) dX12_town_33 rfl ?_
    refine ab_iconst (pc2 := 37) (v := 0) dX12_town_36 rfl ab_k_iconst_0 ?_
    refine ab_istore_n (pc2 := 38) (lo2 := [some (va_rf _), some (.int _), some (.int _), some (.int _), none, none, none]) dX12_town_37 rfl (by decide) rfl ?_
    exact ab_weak (x_X12_town_l38 ht0 _ _ _ hf) (ab_leS (ab_leN (ab_leN (ab_leS (ab_leN (ab_leN (ab_leN ab_le0)))))))
  · refine ab_iload_n (pc2 := 12) dX12_town_11 rfl rfl ?_
    cases Option.some.inj hf
    exact ab_retI dX12_town_12 (Or.inl rfl) (Nat.le_refl _) (Nat.le_refl _) ⟨rfl, rfl⟩
set_option maxHeartbeats 4000000 in
set_option maxRecDepth 100000 in
theorem m_X12_town {d : Nat} {t0 : Nat} {i1 : Int32} {h : ab_HP} {r : (Int32 × ab_HP)} (ht0 : (ab_shp t0).1 = 5) (hf : f_X12_town t0 i1 h = some r) : ab_MET mX12_town (d + 5) 0 0 [va_rf (some t0), .int i1] h (ab_Pi r.1 r.2) := ab_met (by decide +kernel) (by decide +kernel) (Nat.le_of_ble_eq_true rfl) rfl (x_X12_town ht0 hf)
set_option maxHeartbeats 4000000 in
set_option maxRecDepth 100000 in
theorem x_X12_isDeed {d : Nat} {t0 : Nat} {i1 : Int32} {h : ab_HP} {r : Int32} (ht0 : (ab_shp t0).1 = 5) (hf : f_X12_isDeed t0 i1 h = some r) : ab_T mX12_isDeed (d + 1) 0 0 0 0 0 [some (va_rf (some t0)), some (.int i1)] [] h (ab_Pb r h) := by
  unfold f_X12_isDeed at hf
  refine ab_iload_n (pc2 := 1) dX12_isDeed_0 rfl rfl ?_
  refine ab_i2l (pc2 := 2) dX12_isDeed_1 rfl ?_
  refine ab_lconst (pc2 := 3) (v := 0) dX12_isDeed_2 rfl rfl ?_
  refine ab_aload_n (x := _) (pc2 := 4) dX12_isDeed_3 rfl rfl ?_
  refine ab_getR (pc2 := 7) rfl ht0 fa_X12_9 dX12_isDeed_4 rfl (fun T1 => ?_)
  refine ab_bipush (pc2 := 9) (v := 6) dX12_isDeed_7 rfl ab_k_bipush_6 ?_
  obtain ⟨q2, hq2, hf⟩ := ab_bind hf
  obtain ⟨b3, hf⟩ := ab_guard hf
  refine ab_iald (pc2 := 10) hq2 (T1 q2 hq2) (ab_in_vp b3) dX12_isDeed_9 rfl ?_
  refine ab_iconst (pc2 := 11) (v := 1) dX12_isDeed_10 rfl ab_k_iconst_1 ?_
  refine ab_isub (pc2 := 12) dX12_isDeed_11 rfl ?_
  refine ab_i2l (pc2 := 13) dX12_isDeed_12 rfl ?_
  obtain ⟨w4, ew4, hf⟩ := ab_bind hf
  refine ab_callS (pc2 := 16) (st := []) (m_X12_isIn (d := (d + 0)) ew4) mf_X12_isIn tw_101 tw_102 dX12_isDeed_13 rfl (by omega) (Nat.le_refl _) (Nat.le_refl _) rfl (Nat.le_of_ble_eq_true rfl) (fun v u hp => ?_)
  obtain ⟨rfl, rfl, z5⟩ := hp
  show ab_T _ _ _ _ 0 0 16 _ (.int _ :: []) _ _
  cases Option.some.inj hf
  exact ab_retI dX12_isDeed_16 (Or.inr ⟨rfl, z5⟩) (Nat.le_refl _) (Nat.le_refl _) ⟨rfl, rfl, z5⟩
set_option maxHeartbeats 4000000 in
set_option maxRecDepth 100000 in
theorem m_X12_isDeed {d : Nat} {t0 : Nat} {i1 : Int32} {h : ab_HP} {r : Int32} (ht0 : (ab_shp t0).1 = 5) (hf : f_X12_isDeed t0 i1 h = some r) : ab_MET mX12_isDeed (d + 1) 0 0 [va_rf (some t0), .int i1] h (ab_Pb r h) := ab_met (by decide +kernel) (by decide +kernel) (Nat.le_of_ble_eq_true rfl) rfl (x_X12_isDeed ht0 hf)
set_option maxHeartbeats 4000000 in
set_option maxRecDepth 100000 in
theorem x_X12_get {d : Nat} {t0 : Nat} {i1 : Int32} {i2 : Int32} {h : ab_HP} {r : Int32} (ht0 : (ab_shp t0).1 = 5) (hf : f_X12_get t0 i1 i2 h = some r) : ab_T mX12_get (d + 0) 0 0 0 0 0 [some (va_rf (some t0)), some (.int i1), some (.int i2)] [] h (ab_Pi r h) := by
  unfold f_X12_get at hf
  refine ab_aload_n (x := _) (pc2 := 1) dX12_get_0 rfl rfl ?_
  refine ab_getR (pc2 := 4) rfl ht0 fa_X12_9 dX12_get_1 rfl (fun T1 => ?_)
  refine ab_bipush (pc2 := 6) (v := 7) dX12_get_4 rfl ab_k_bipush_7 ?_
  refine ab_iconst (pc2 := 7) (v := 5) dX12_get_6 rfl ab_k_iconst_5 ?_
  refine ab_iload_n (pc2 := 8) dX12_get_7 rfl rfl ?_
  refine ab_imul (pc2 := 9) dX12_get_8 rfl ?_
  refine ab_iadd (pc2 := 10) dX12_get_9 rfl ?_
  refine ab_iload_n (pc2 := 11) dX12_get_10 rfl rfl ?_
  refine ab_iadd (pc2 := 12) dX12_get_11 rfl ?_
  obtain ⟨q2, hq2, hf⟩ := ab_bind hf
  obtain ⟨b3, hf⟩ := ab_guard hf
  refine ab_iald (pc2 := 13) hq2 (T1 q2 hq2) (ab_in_vp b3) dX12_get_12 rfl ?_
  cases Option.some.inj hf
  exact ab_retI dX12_get_13 (Or.inl rfl) (Nat.le_refl _) (Nat.le_refl _) ⟨rfl, rfl⟩
set_option maxHeartbeats 4000000 in
set_option maxRecDepth 100000 in
theorem m_X12_get {d : Nat} {t0 : Nat} {i1 : Int32} {i2 : Int32} {h : ab_HP} {r : Int32} (ht0 : (ab_shp t0).1 = 5) (hf : f_X12_get t0 i1 i2 h = some r) : ab_MET mX12_get (d + 0) 0 0 [va_rf (some t0), .int i1, .int i2] h (ab_Pi r h) := ab_met (by decide +kernel) (by decide +kernel) (Nat.le_of_ble_eq_true rfl) rfl (x_X12_get ht0 hf)
set_option maxHeartbeats 4000000 in
set_option maxRecDepth 100000 in
theorem x_X12_costOf {d : Nat} {t0 : Nat} {i1 : Int32} {h : ab_HP} {r : Int32} (ht0 : (ab_shp t0).1 = 5) (hf : f_X12_costOf t0 i1 h = some r) : ab_T mX12_costOf (d + 1) 0 0 0 0 0 [some (va_rf (some t0)), some (.int i1), none] [] h (ab_Pi r h) := by
  unfold f_X12_costOf at hf
  refine ab_aload_n (x := _) (pc2 := 1) dX12_costOf_0 rfl rfl ?_
  refine ab_iload_n (pc2 := 2) dX12_costOf_1 rfl rfl ?_
  refine ab_iconst (pc2 := 3) (v := 3) dX12_costOf_2 rfl ab_k_iconst_3 ?_
  obtain ⟨w1, ew1, hf⟩ := ab_bind hf
  refine ab_callV (pc2 := 6) (st := []) rfl ht0 (by decide) (m_X12_get (d := (d + 0)) ht0 ew1) mf_X12_get tw_129 tw_128 ts_X12_get (Or.inl (by decide +kernel)) dX12_costOf_3 rfl (by omega) (Nat.le_refl _) (Nat.le_refl _) rfl (Nat.le_of_ble_eq_true rfl) (fun v u hp => ?_)
  obtain ⟨rfl, rfl⟩ := hp
  show ab_T _ _ _ _ 0 0 6 _ (.int _ :: []) _ _
  refine ab_istore_n (pc2 := 7) (lo2 := [some (va_rf _), some (.int _), some (.int _)]) dX12_costOf_6 rfl (by decide) rfl ?_
  refine ab_aload_n (x := _) (pc2 := 8) dX12_costOf_7 rfl rfl ?_
  refine ab_iload_n (pc2 := 9) dX12_costOf_8 rfl rfl ?_
  refine ab_iconst (pc2 := 10) (v := 0) dX12_costOf_9 rfl ab_k_iconst_0 ?_
  obtain ⟨w2, ew2, hf⟩ := ab_bind hf
  refine ab_callV (pc2 := 13) (st := []) rfl ht0 (by decide) (m_X12_get (d := (d + 0)) ht0 ew2) mf_X12_get tw_129 tw_128 ts_X12_get (Or.inl (by decide +kernel)) dX12_costOf_10 rfl (by omega) (Nat.le_refl _) (Nat.le_refl _) rfl (Nat.le_of_ble_eq_true rfl) (fun v u hp => ?_)
  obtain ⟨rfl, rfl⟩ := hp
  show ab_T _ _ _ _ 0 0 13 _ (.int _ :: []) _ _
  rcases ab_cas hf with ⟨s3, hf⟩ | ⟨s3, hf⟩
  · refine ab_tswK (tgt := 56) dX12_costOf_13 s3 (by decide) (by decide) (by decide +kernel) (by decide) ?_
    refine ab_iload_n (pc2 := 57) dX12_costOf_56 rfl rfl ?_
    refine ab_aload_n (x := _) (pc2 := 58) dX12_costOf_57 rfl rfl ?_
    refine ab_iload_n (pc2 := 59) dX12_costOf_58 rfl rfl ?_
    refine ab_iconst (pc2 := 60) (v := 4) dX12_costOf_59 rfl ab_k_iconst_4 ?_
    obtain ⟨w4, ew4, hf⟩ := ab_bind hf
    refine ab_callV (pc2 := 63) (st := [_]) rfl ht0 (by decide) (m_X12_get (d := (d + 0)) ht0 ew4) mf_X12_get tw_129 tw_128 ts_X12_get (Or.inl (by decide +kernel)) dX12_costOf_60 rfl (by omega) (Nat.le_refl _) (Nat.le_refl _) rfl (Nat.le_of_ble_eq_true rfl) (fun v u hp => ?_)
    obtain ⟨rfl, rfl⟩ := hp
    show ab_T _ _ _ _ 0 0 63 _ (.int _ :: [_]) _ _
    refine ab_iadd (pc2 := 64) dX12_costOf_63 rfl ?_
    cases Option.some.inj hf
    exact ab_retI dX12_costOf_64 (Or.inl rfl) (Nat.le_refl _) (Nat.le_refl _) ⟨rfl, rfl⟩
  rcases ab_cas hf with ⟨s5, hf⟩ | ⟨s5, hf⟩
  · refine ab_tswK (tgt := 65) dX12_costOf_13 s5 (by decide) (by decide) (by decide +kernel) (by decide) ?_
    refine ab_iload_n (pc2 := 66) dX12_costOf_65 rfl rfl ?_
    refine ab_iconst (pc2 := 67) (v := 2) dX12_costOf_66 rfl ab_k_iconst_2 ?_
    refine ab_idiv (pc2 := 68) dX12_costOf_67 rfl (by decide) ?_
    cases Option.some.inj hf
    exact ab_retI dX12_costOf_68 (Or.inl rfl) (Nat.le_refl _) (Nat.le_refl _) ⟨rfl, rfl⟩
  rcases ab_cas hf with ⟨s6, hf⟩ | ⟨s6, hf⟩
  · refine ab_tswK (tgt := 69) dX12_costOf_13 s6 (by decide) (by decide) (by decide +kernel) (by decide) ?_
    refine ab_iconst (pc2 := 70) (v := 0) dX12_costOf_69 rfl ab_k_iconst_0 ?_
    cases Option.some.inj hf
    exact ab_retI dX12_costOf_70 (Or.inl rfl) (Nat.le_refl _) (Nat.le_refl _) ⟨rfl, rfl⟩
  rcases ab_cas hf with ⟨s7, hf⟩ | ⟨s7, hf⟩
  · refine ab_tswK (tgt := 71) dX12_costOf_13 s7 (by decide) (by decide) (by decide +kernel) (by decide) ?_
    refine ab_iload_n (pc2 := 72) dX12_costOf_71 rfl rfl ?_
    refine ab_aload_n (x := _) (pc2 := 73) dX12_costOf_72 rfl rfl ?_
    refine ab_iload_n (pc2 := 74) dX12_costOf_73 rfl rfl ?_
    refine ab_iconst (pc2 := 75) (v := 4) dX12_costOf_74 rfl ab_k_iconst_4 ?_
    obtain ⟨w8, ew8, hf⟩ := ab_bind hf
    refine ab_callV (pc2 := 78) (st := [_]) rfl ht0 (by decide) (m_X12_get (d := (d + 0)) ht0 ew8) mf_X12_get tw_129 tw_128 ts_X12_get (Or.inl (by decide +kernel)) dX12_costOf_75 rfl (by omega) (Nat.le_refl _) (Nat.le_refl _) rfl (Nat.le_of_ble_eq_true rfl) (fun v u hp => ?_)
    obtain ⟨rfl, rfl⟩ := hp
    show ab_T _ _ _ _ 0 0 78 _ (.int _ :: [_]) _ _
    refine ab_iadd (pc2 := 79) dX12_costOf_78 rfl ?_
    refine ab_iconst (pc2 := 80) (v := 5) dX12_costOf_79 rfl ab_k_iconst_5 ?_
    refine ab_iadd (pc2 := 81) dX12_costOf_80 rfl ?_
    cases Option.some.inj hf
    exact ab_retI dX12_costOf_81 (Or.inl rfl) (Nat.le_refl _) (Nat.le_refl _) ⟨rfl, rfl⟩
  rcases ab_cas hf with ⟨s9, hf⟩ | ⟨s9, hf⟩
  · refine ab_tswK (tgt := 69) dX12_costOf_13 s9 (by decide) (by decide) (by decide +kernel) (by decide) ?_
    refine ab_iconst (pc2 := 70) (v := 0) dX12_costOf_69 rfl ab_k_iconst_0 ?_
    cases Option.some.inj hf
    exact ab_retI dX12_costOf_70 (Or.inl rfl) (Nat.le_refl _) (Nat.le_refl _) ⟨rfl, rfl⟩
  have s3n := lv_neT s3 (by decide : (1 : Int32).toInt = 1)
  have s5n := lv_neT s5 (by decide : (3 : Int32).toInt = 3)
  have s6n := lv_neT s6 (by decide : (4 : Int32).toInt = 4)
  have s7n := lv_neT s7 (by decide : (5 : Int32).toInt = 5)
  have s9n := lv_neT s9 (by decide : (7 : Int32).toInt = 7)
  refine ab_tswD (tgt := 82) dX12_costOf_13 (by decide) (fun j hj e => by
    have hj : j < 7 := hj
    rcases (by omega : j = 0 ∨ j = 1 ∨ j = 2 ∨ j = 3 ∨ j = 4 ∨ j = 5 ∨ j = 6) with rfl | rfl | rfl | rfl | rfl | rfl | rfl
    · exact absurd e (by omega)
    · rfl
    · exact absurd e (by omega)
    · exact absurd e (by omega)
    · exact absurd e (by omega)
    · rfl
    · exact absurd e (by omega)) (by decide) ?_
  refine ab_iload_n (pc2 := 83) dX12_costOf_82 rfl rfl ?_
  cases Option.some.inj hf
  exact ab_retI dX12_costOf_83 (Or.inl rfl) (Nat.le_refl _) (Nat.le_refl _) ⟨rfl, rfl⟩
set_option maxHeartbeats 4000000 in
set_option maxRecDepth 100000 in
theorem m_X12_costOf {d : Nat} {t0 : Nat} {i1 : Int32} {h : ab_HP} {r : Int32} (ht0 : (ab_shp t0).1 = 5) (hf : f_X12_costOf t0 i1 h = some r) : ab_MET mX12_costOf (d + 1) 0 0 [va_rf (some t0), .int i1] h (ab_Pi r h) := ab_met (by decide +kernel) (by decide +kernel) (Nat.le_of_ble_eq_true rfl) rfl (x_X12_costOf ht0 hf)
set_option maxHeartbeats 4000000 in
set_option maxRecDepth 100000 in
theorem x_X12_backOf_b48 {d : Nat} {t0 : Nat} {i1 : Int32} {h : ab_HP} {r : Int32} (ht0 : (ab_shp t0).1 = 5) (hf : f_X12_backOf_b48 t0 i1 h = some r) : ab_T mX12_backOf (d + 2) 0 0 0 0 48 [some (va_rf (some t0)), some (.int i1)] [] h (ab_Pi r h) := by
  unfold f_X12_backOf_b48 at hf
  refine ab_aload_n (x := _) (pc2 := 49) dX12_backOf_48 rfl rfl ?_
  refine ab_iload_n (pc2 := 50) dX12_backOf_49 rfl rfl ?_
  obtain ⟨w9, ew9, hf⟩ := ab_bind hf
  refine ab_callV (pc2 := 53) (st := []) rfl ht0 (by decide) (m_X12_costOf (d := (d + 0)) ht0 ew9) mf_X12_costOf tw_131 tw_130 ts_X12_costOf (Or.inl (by decide +kernel)) dX12_backOf_50 rfl (by omega) (Nat.le_refl _) (Nat.le_refl _) rfl (Nat.le_of_ble_eq_true rfl) (fun v u hp => ?_)
  obtain ⟨rfl, rfl⟩ := hp
  show ab_T _ _ _ _ 0 0 53 _ (.int _ :: []) _ _
  refine ab_iconst (pc2 := 54) (v := 2) dX12_backOf_53 rfl ab_k_iconst_2 ?_
  refine ab_idiv (pc2 := 55) dX12_backOf_54 rfl (by decide) ?_
  cases Option.some.inj hf
  exact ab_retI dX12_backOf_55 (Or.inl rfl) (Nat.le_refl _) (Nat.le_refl _) ⟨rfl, rfl⟩
set_option maxHeartbeats 4000000 in
set_option maxRecDepth 100000 in
theorem x_X12_backOf_b65 {d : Nat} {t0 : Nat} {i1 : Int32} {h : ab_HP} {r : Int32} (ht0 : (ab_shp t0).1 = 5) (hf : f_X12_backOf_b65 t0 i1 h = some r) : ab_T mX12_backOf (d + 2) 0 0 0 0 65 [some (va_rf (some t0)), some (.int i1)] [] h (ab_Pi r h) := by
  unfold f_X12_backOf_b65 at hf
  refine ab_aload_n (x := _) (pc2 := 66) dX12_backOf_65 rfl rfl ?_
  refine ab_iload_n (pc2 := 67) dX12_backOf_66 rfl rfl ?_
  obtain ⟨w10, ew10, hf⟩ := ab_bind hf
  refine ab_callV (pc2 := 70) (st := []) rfl ht0 (by decide) (m_X12_costOf (d := (d + 0)) ht0 ew10) mf_X12_costOf tw_131 tw_130 ts_X12_costOf (Or.inl (by decide +kernel)) dX12_backOf_67 rfl (by omega) (Nat.le_refl _) (Nat.le_refl _) rfl (Nat.le_of_ble_eq_true rfl) (fun v u hp => ?_)
  obtain ⟨rfl, rfl⟩ := hp
  show ab_T _ _ _ _ 0 0 70 _ (.int _ :: []) _ _
  cases Option.some.inj hf
  exact ab_retI dX12_backOf_70 (Or.inl rfl) (Nat.le_refl _) (Nat.le_refl _) ⟨rfl, rfl⟩
set_option maxHeartbeats 4000000 in
set_option maxRecDepth 100000 in
theorem x_X12_backOf {d : Nat} {t0 : Nat} {i1 : Int32} {h : ab_HP} {r : Int32} (ht0 : (ab_shp t0).1 = 5) (hf : f_X12_backOf t0 i1 h = some r) : ab_T mX12_backOf (d + 2) 0 0 0 0 0 [some (va_rf (some t0)), some (.int i1)] [] h (ab_Pi r h) := by
  unfold f_X12_backOf at hf
  refine ab_aload_n (x := _) (pc2 := 1) dX12_backOf_0 rfl rfl ?_
  refine ab_iload_n (pc2 := 2) dX12_backOf_1 rfl rfl ?_
  refine ab_iconst (pc2 := 3) (v := 0) dX12_backOf_2 rfl ab_k_iconst_0 ?_
  obtain ⟨w1, ew1, hf⟩ := ab_bind hf
  refine ab_callV (pc2 := 6) (st := []) rfl ht0 (by decide) (m_X12_get (d := (d + 1)) ht0 ew1) mf_X12_get tw_129 tw_128 ts_X12_get (Or.inl (by decide +kernel)) dX12_backOf_3 rfl (by omega) (Nat.le_refl _) (Nat.le_refl _) rfl (Nat.le_of_ble_eq_true rfl) (fun v u hp => ?_)
  obtain ⟨rfl, rfl⟩ := hp
  show ab_T _ _ _ _ 0 0 6 _ (.int _ :: []) _ _
  rcases ab_cas hf with ⟨s2, hf⟩ | ⟨s2, hf⟩
  · refine ab_tswK (tgt := 48) dX12_backOf_6 s2 (by decide) (by decide) (by decide +kernel) (by decide) ?_
    exact ab_weak (x_X12_backOf_b48 ht0 hf) (ab_leS (ab_leS ab_le0))
  rcases ab_cas hf with ⟨s3, hf⟩ | ⟨s3, hf⟩
  · refine ab_tswK (tgt := 56) dX12_backOf_6 s3 (by decide) (by decide) (by decide +kernel) (by decide) ?_
    refine ab_iconst (pc2 := 57) (v := 0) dX12_backOf_56 rfl ab_k_iconst_0 ?_
    cases Option.some.inj hf
    exact ab_retI dX12_backOf_57 (Or.inl rfl) (Nat.le_refl _) (Nat.le_refl _) ⟨rfl, rfl⟩
  rcases ab_cas hf with ⟨s4, hf⟩ | ⟨s4, hf⟩
  · refine ab_tswK (tgt := 58) dX12_backOf_6 s4 (by decide) (by decide) (by decide +kernel) (by decide) ?_
    refine ab_aload_n (x := _) (pc2 := 59) dX12_backOf_58 rfl rfl ?_
    refine ab_iload_n (pc2 := 60) dX12_backOf_59 rfl rfl ?_
    refine ab_iconst (pc2 := 61) (v := 4) dX12_backOf_60 rfl ab_k_iconst_4 ?_
    obtain ⟨w5, ew5, hf⟩ := ab_bind hf
    refine ab_callV (pc2 := 64) (st := []) rfl ht0 (by decide) (m_X12_get (d := (d + 1)) ht0 ew5) mf_X12_get tw_129 tw_128 ts_X12_get (Or.inl (by decide +kernel)) dX12_backOf_61 rfl (by omega) (Nat.le_refl _) (Nat.le_refl _) rfl (Nat.le_of_ble_eq_true rfl) (fun v u hp => ?_)
    obtain ⟨rfl, rfl⟩ := hp
    show ab_T _ _ _ _ 0 0 64 _ (.int _ :: []) _ _
    cases Option.some.inj hf
    exact ab_retI dX12_backOf_64 (Or.inl rfl) (Nat.le_refl _) (Nat.le_refl _) ⟨rfl, rfl⟩
  rcases ab_cas hf with ⟨s6, hf⟩ | ⟨s6, hf⟩
  · refine ab_tswK (tgt := 56) dX12_backOf_6 s6 (by decide) (by decide) (by decide +kernel) (by decide) ?_
    refine ab_iconst (pc2 := 57) (v := 0) dX12_backOf_56 rfl ab_k_iconst_0 ?_
    cases Option.some.inj hf
    exact ab_retI dX12_backOf_57 (Or.inl rfl) (Nat.le_refl _) (Nat.le_refl _) ⟨rfl, rfl⟩
  rcases ab_cas hf with ⟨s7, hf⟩ | ⟨s7, hf⟩
  · refine ab_tswK (tgt := 48) dX12_backOf_6 s7 (by decide) (by decide) (by decide +kernel) (by decide) ?_
    exact ab_weak (x_X12_backOf_b48 ht0 hf) (ab_leS (ab_leS ab_le0))
  rcases ab_cas hf with ⟨s8, hf⟩ | ⟨s8, hf⟩
  · refine ab_tswK (tgt := 56) dX12_backOf_6 s8 (by decide) (by decide) (by decide +kernel) (by decide) ?_
    refine ab_iconst (pc2 := 57) (v := 0) dX12_backOf_56 rfl ab_k_iconst_0 ?_
    cases Option.some.inj hf
    exact ab_retI dX12_backOf_57 (Or.inl rfl) (Nat.le_refl _) (Nat.le_refl _) ⟨rfl, rfl⟩
  have s2n := lv_neT s2 (by decide : (1 : Int32).toInt = 1)
  have s3n := lv_neT s3 (by decide : (2 : Int32).toInt = 2)
  have s4n := lv_neT s4 (by decide : (3 : Int32).toInt = 3)
  have s6n := lv_neT s6 (by decide : (4 : Int32).toInt = 4)
  have s7n := lv_neT s7 (by decide : (5 : Int32).toInt = 5)
  have s8n := lv_neT s8 (by decide : (7 : Int32).toInt = 7)
  refine ab_tswD (tgt := 65) dX12_backOf_6 (by decide) (fun j hj e => by
    have hj : j < 7 := hj
    rcases (by omega : j = 0 ∨ j = 1 ∨ j = 2 ∨ j = 3 ∨ j = 4 ∨ j = 5 ∨ j = 6) with rfl | rfl | rfl | rfl | rfl | rfl | rfl
    · exact absurd e (by omega)
    · exact absurd e (by omega)
    · exact absurd e (by omega)
    · exact absurd e (by omega)
    · exact absurd e (by omega)
    · rfl
    · exact absurd e (by omega)) (by decide) ?_
  exact ab_weak (x_X12_backOf_b65 ht0 hf) (ab_leS (ab_leS ab_le0))
set_option maxHeartbeats 4000000 in
set_option maxRecDepth 100000 in
theorem m_X12_backOf {d : Nat} {t0 : Nat} {i1 : Int32} {h : ab_HP} {r : Int32} (ht0 : (ab_shp t0).1 = 5) (hf : f_X12_backOf t0 i1 h = some r) : ab_MET mX12_backOf (d + 2) 0 0 [va_rf (some t0), .int i1] h (ab_Pi r h) := ab_met (by decide +kernel) (by decide +kernel) (Nat.le_of_ble_eq_true rfl) rfl (x_X12_backOf ht0 hf)
set_option maxHeartbeats 4000000 in
set_option maxRecDepth 100000 in
theorem x_X12_isKept_b42 {d : Nat} {t0 : Nat} {i1 : Int32} {h : ab_HP} {r : Int32} (ht0 : (ab_shp t0).1 = 5) (hf : f_X12_isKept_b42 t0 i1 h = some r) : ab_T mX12_isKept (d + 1) 0 0 0 0 42 [some (va_rf (some t0)), some (.int i1), none] [] h (ab_Pb r h) := by
  unfold f_X12_isKept_b42 at hf
  refine ab_aload_n (x := _) (pc2 := 43) dX12_isKept_42 rfl rfl ?_
  refine ab_iload_n (pc2 := 44) dX12_isKept_43 rfl rfl ?_
  refine ab_iconst (pc2 := 45) (v := 4) dX12_isKept_44 rfl ab_k_iconst_4 ?_
  obtain ⟨w7, ew7, hf⟩ := ab_bind hf
  refine ab_callV (pc2 := 48) (st := []) rfl ht0 (by decide) (m_X12_get (d := (d + 0)) ht0 ew7) mf_X12_get tw_129 tw_128 ts_X12_get (Or.inl (by decide +kernel)) dX12_isKept_45 rfl (by omega) (Nat.le_refl _) (Nat.le_refl _) rfl (Nat.le_of_ble_eq_true rfl) (fun v u hp => ?_)
  obtain ⟨rfl, rfl⟩ := hp
  show ab_T _ _ _ _ 0 0 48 _ (.int _ :: []) _ _
  refine ab_iconst (pc2 := 49) (v := 5) dX12_isKept_48 rfl ab_k_iconst_5 ?_
  refine ab_icmp_lt (tgt := 56) (pc2 := 52) dX12_isKept_49 (by decide) rfl hf (fun c8 hf => ?_) (fun c8 hf => ?_)
  · refine ab_iconst (pc2 := 57) (v := 0) dX12_isKept_56 rfl ab_k_iconst_0 ?_
    cases Option.some.inj hf
    exact ab_retI dX12_isKept_57 (Or.inr ⟨rfl, (Or.inl rfl)⟩) (Nat.le_refl _) (Nat.le_refl _) ⟨rfl, rfl, (Or.inl rfl)⟩
  · refine ab_iconst (pc2 := 53) (v := 1) dX12_isKept_52 rfl ab_k_iconst_1 ?_
    refine ab_goto (tgt := 57) dX12_isKept_53 (by decide) ?_
    cases Option.some.inj hf
    exact ab_retI dX12_isKept_57 (Or.inr ⟨rfl, (Or.inr rfl)⟩) (Nat.le_refl _) (Nat.le_refl _) ⟨rfl, rfl, (Or.inr rfl)⟩
set_option maxHeartbeats 4000000 in
set_option maxRecDepth 100000 in
theorem x_X12_isKept {d : Nat} {t0 : Nat} {i1 : Int32} {h : ab_HP} {r : Int32} (ht0 : (ab_shp t0).1 = 5) (hf : f_X12_isKept t0 i1 h = some r) : ab_T mX12_isKept (d + 1) 0 0 0 0 0 [some (va_rf (some t0)), some (.int i1), none] [] h (ab_Pb r h) := by
  unfold f_X12_isKept at hf
  refine ab_aload_n (x := _) (pc2 := 1) dX12_isKept_0 rfl rfl ?_
  refine ab_iload_n (pc2 := 2) dX12_isKept_1 rfl rfl ?_
  refine ab_iconst (pc2 := 3) (v := 0) dX12_isKept_2 rfl ab_k_iconst_0 ?_
  obtain ⟨w1, ew1, hf⟩ := ab_bind hf
  refine ab_callV (pc2 := 6) (st := []) rfl ht0 (by decide) (m_X12_get (d := (d + 0)) ht0 ew1) mf_X12_get tw_129 tw_128 ts_X12_get (Or.inl (by decide +kernel)) dX12_isKept_3 rfl (by omega) (Nat.le_refl _) (Nat.le_refl _) rfl (Nat.le_of_ble_eq_true rfl) (fun v u hp => ?_)
  obtain ⟨rfl, rfl⟩ := hp
  show ab_T _ _ _ _ 0 0 6 _ (.int _ :: []) _ _
  refine ab_istore_n (pc2 := 7) (lo2 := [some (va_rf _), some (.int _), some (.int _)]) dX12_isKept_6 rfl (by decide) rfl ?_
  refine ab_iload_n (pc2 := 8) dX12_isKept_7 rfl rfl ?_
  refine ab_iconst (pc2 := 9) (v := 5) dX12_isKept_8 rfl ab_k_iconst_5 ?_
  refine ab_icmp_ne (tgt := 31) (pc2 := 12) dX12_isKept_9 (by decide) rfl hf (fun c2 hf => ?_) (fun c2 hf => ?_)
  · refine ab_iload_n (pc2 := 32) dX12_isKept_31 rfl rfl ?_
    refine ab_iconst (pc2 := 33) (v := 4) dX12_isKept_32 rfl ab_k_iconst_4 ?_
    refine ab_icmp_eq (tgt := 42) (pc2 := 36) dX12_isKept_33 (by decide) rfl hf (fun c3 hf => ?_) (fun c3 hf => ?_)
    · exact ab_weak (x_X12_isKept_b42 ht0 hf) (ab_leS (ab_leS (ab_leN ab_le0)))
    · refine ab_iload_n (pc2 := 37) dX12_isKept_36 rfl rfl ?_
      refine ab_bipush (pc2 := 39) (v := 7) dX12_isKept_37 rfl ab_k_bipush_7 ?_
      refine ab_icmp_ne (tgt := 56) (pc2 := 42) dX12_isKept_39 (by decide) rfl hf (fun c4 hf => ?_) (fun c4 hf => ?_)
      · refine ab_iconst (pc2 := 57) (v := 0) dX12_isKept_56 rfl ab_k_iconst_0 ?_
        cases Option.some.inj hf
        exact ab_retI dX12_isKept_57 (Or.inr ⟨rfl, (Or.inl rfl)⟩) (Nat.le_refl _) (Nat.le_refl _) ⟨rfl, rfl, (Or.inl rfl)⟩
      · exact ab_weak (x_X12_isKept_b42 ht0 hf) (ab_leS (ab_leS (ab_leN ab_le0)))
  · refine ab_aload_n (x := _) (pc2 := 13) dX12_isKept_12 rfl rfl ?_
    refine ab_iload_n (pc2 := 14) dX12_isKept_13 rfl rfl ?_
    refine ab_iconst (pc2 := 15) (v := 4) dX12_isKept_14 rfl ab_k_iconst_4 ?_
    obtain ⟨w5, ew5, hf⟩ := ab_bind hf
    refine ab_callV (pc2 := 18) (st := []) rfl ht0 (by decide) (m_X12_get (d := (d + 0)) ht0 ew5) mf_X12_get tw_129 tw_128 ts_X12_get (Or.inl (by decide +kernel)) dX12_isKept_15 rfl (by omega) (Nat.le_refl _) (Nat.le_refl _) rfl (Nat.le_of_ble_eq_true rfl) (fun v u hp => ?_)
    obtain ⟨rfl, rfl⟩ := hp
    show ab_T _ _ _ _ 0 0 18 _ (.int _ :: []) _ _
    refine ab_bipush (pc2 := 20) (v := 9) dX12_isKept_18 rfl ab_k_bipush_9 ?_
    refine ab_icmp_ne (tgt := 27) (pc2 := 23) dX12_isKept_20 (by decide) rfl hf (fun c6 hf => ?_) (fun c6 hf => ?_)
    · refine ab_iconst (pc2 := 28) (v := 0) dX12_isKept_27 rfl ab_k_iconst_0 ?_
      refine ab_goto (tgt := 57) dX12_isKept_28 (by decide) ?_
      cases Option.some.inj hf
      exact ab_retI dX12_isKept_57 (Or.inr ⟨rfl, (Or.inl rfl)⟩) (Nat.le_refl _) (Nat.le_refl _) ⟨rfl, rfl, (Or.inl rfl)⟩
    · refine ab_iconst (pc2 := 24) (v := 1) dX12_isKept_23 rfl ab_k_iconst_1 ?_
      refine ab_goto (tgt := 57) dX12_isKept_24 (by decide) ?_
      cases Option.some.inj hf
      exact ab_retI dX12_isKept_57 (Or.inr ⟨rfl, (Or.inr rfl)⟩) (Nat.le_refl _) (Nat.le_refl _) ⟨rfl, rfl, (Or.inr rfl)⟩
set_option maxHeartbeats 4000000 in
set_option maxRecDepth 100000 in
theorem m_X12_isKept {d : Nat} {t0 : Nat} {i1 : Int32} {h : ab_HP} {r : Int32} (ht0 : (ab_shp t0).1 = 5) (hf : f_X12_isKept t0 i1 h = some r) : ab_MET mX12_isKept (d + 1) 0 0 [va_rf (some t0), .int i1] h (ab_Pb r h) := ab_met (by decide +kernel) (by decide +kernel) (Nat.le_of_ble_eq_true rfl) rfl (x_X12_isKept ht0 hf)
set_option maxHeartbeats 4000000 in
set_option maxRecDepth 100000 in
theorem x_X12_deed {d : Nat} {t0 : Nat} {i1 : Int32} {i2 : Int32} {h : ab_HP} {r : Int32} (ht0 : (ab_shp t0).1 = 5) (hf : f_X12_deed t0 i1 i2 h = some r) : ab_T mX12_deed (d + 3) 0 0 0 0 0 [some (va_rf (some t0)), some (.int i1), some (.int i2)] [] h (ab_Pi r h) := by
  unfold f_X12_deed at hf
  refine ab_aload_n (x := _) (pc2 := 1) dX12_deed_0 rfl rfl ?_
  refine ab_iload_n (pc2 := 2) dX12_deed_1 rfl rfl ?_
  obtain ⟨w1, ew1, hf⟩ := ab_bind hf
  refine ab_callV (pc2 := 5) (st := []) rfl ht0 (by decide) (m_X12_isDeed (d := (d + 1)) ht0 ew1) mf_X12_isDeed tw_133 tw_132 ts_X12_isDeed (Or.inl (by decide +kernel)) dX12_deed_2 rfl (by omega) (Nat.le_refl _) (Nat.le_refl _) rfl (Nat.le_of_ble_eq_true rfl) (fun v u hp => ?_)
  obtain ⟨rfl, rfl, z2⟩ := hp
  show ab_T _ _ _ _ 0 0 5 _ (.int _ :: []) _ _
  refine ab_if_ne (tgt := 10) (pc2 := 8) dX12_deed_5 (by decide) rfl hf (fun c3 hf => ?_) (fun c3 hf => ?_)
  · refine ab_iload_n (pc2 := 11) dX12_deed_10 rfl rfl ?_
    refine ab_i2l (pc2 := 12) dX12_deed_11 rfl ?_
    refine ab_lconst (pc2 := 13) (v := 0) dX12_deed_12 rfl rfl ?_
    refine ab_ldc2 (pc2 := 16) (v := 4) dX12_deed_13 rfl tw_134 ?_
    obtain ⟨w4, ew4, hf⟩ := ab_bind hf
    refine ab_callS (pc2 := 19) (st := []) (m_X12_isIn (d := (d + 2)) ew4) mf_X12_isIn tw_101 tw_102 dX12_deed_16 rfl (by omega) (Nat.le_refl _) (Nat.le_refl _) rfl (Nat.le_of_ble_eq_true rfl) (fun v u hp => ?_)
    obtain ⟨rfl, rfl, z5⟩ := hp
    show ab_T _ _ _ _ 0 0 19 _ (.int _ :: []) _ _
    refine ab_if_eq (tgt := 29) (pc2 := 22) dX12_deed_19 (by decide) rfl hf (fun c6 hf => ?_) (fun c6 hf => ?_)
    · refine ab_iload_n (pc2 := 30) dX12_deed_29 rfl rfl ?_
      refine ab_iconst (pc2 := 31) (v := 5) dX12_deed_30 rfl ab_k_iconst_5 ?_
      refine ab_icmp_ne (tgt := 42) (pc2 := 34) dX12_deed_31 (by decide) rfl hf (fun c7 hf => ?_) (fun c7 hf => ?_)
      · refine ab_iload_n (pc2 := 43) dX12_deed_42 rfl rfl ?_
        refine ab_bipush (pc2 := 45) (v := 6) dX12_deed_43 rfl ab_k_bipush_6 ?_
        refine ab_icmp_ne (tgt := 56) (pc2 := 48) dX12_deed_45 (by decide) rfl hf (fun c8 hf => ?_) (fun c8 hf => ?_)
        · refine ab_iload_n (pc2 := 57) dX12_deed_56 rfl rfl ?_
          refine ab_bipush (pc2 := 59) (v := 7) dX12_deed_57 rfl ab_k_bipush_7 ?_
          refine ab_icmp_ne (tgt := 78) (pc2 := 62) dX12_deed_59 (by decide) rfl hf (fun c9 hf => ?_) (fun c9 hf => ?_)
          · refine ab_iconst (pc2 := 79) (v := (-1)) dX12_deed_78 rfl ab_k_iconst_m1 ?_
            cases Option.some.inj hf
            exact ab_retI dX12_deed_79 (Or.inl rfl) (Nat.le_refl _) (Nat.le_refl _) ⟨rfl, rfl⟩
          · refine ab_aload_n (x := _) (pc2 := 63) dX12_deed_62 rfl rfl ?_
            refine ab_iload_n (pc2 := 64) dX12_deed_63 rfl rfl ?_
            obtain ⟨w10, ew10, hf⟩ := ab_bind hf
            refine ab_callV (pc2 := 67) (st := []) rfl ht0 (by decide) (m_X12_isKept (d := (d + 1)) ht0 ew10) mf_X12_isKept tw_136 tw_135 ts_X12_isKept (Or.inl (by decide +kernel)) dX12_deed_64 rfl (by omega) (Nat.le_refl _) (Nat.le_refl _) rfl (Nat.le_of_ble_eq_true rfl) (fun v u hp => ?_)
            obtain ⟨rfl, rfl, z11⟩ := hp
            show ab_T _ _ _ _ 0 0 67 _ (.int _ :: []) _ _
            refine ab_if_eq (tgt := 74) (pc2 := 70) dX12_deed_67 (by decide) rfl hf (fun c12 hf => ?_) (fun c12 hf => ?_)
            · refine ab_iconst (pc2 := 75) (v := 0) dX12_deed_74 rfl ab_k_iconst_0 ?_
              refine ab_goto (tgt := 79) dX12_deed_75 (by decide) ?_
              cases Option.some.inj hf
              exact ab_retI dX12_deed_79 (Or.inl rfl) (Nat.le_refl _) (Nat.le_refl _) ⟨rfl, rfl⟩
            · refine ab_iconst (pc2 := 71) (v := 1) dX12_deed_70 rfl ab_k_iconst_1 ?_
              refine ab_goto (tgt := 79) dX12_deed_71 (by decide) ?_
              cases Option.some.inj hf
              exact ab_retI dX12_deed_79 (Or.inl rfl) (Nat.le_refl _) (Nat.le_refl _) ⟨rfl, rfl⟩
        · refine ab_aload_n (x := _) (pc2 := 49) dX12_deed_48 rfl rfl ?_
          refine ab_iload_n (pc2 := 50) dX12_deed_49 rfl rfl ?_
          obtain ⟨w13, ew13, hf⟩ := ab_bind hf
          refine ab_callV (pc2 := 53) (st := []) rfl ht0 (by decide) (m_X12_backOf (d := (d + 0)) ht0 ew13) mf_X12_backOf tw_138 tw_137 ts_X12_backOf (Or.inl (by decide +kernel)) dX12_deed_50 rfl (by omega) (Nat.le_refl _) (Nat.le_refl _) rfl (Nat.le_of_ble_eq_true rfl) (fun v u hp => ?_)
          obtain ⟨rfl, rfl⟩ := hp
          show ab_T _ _ _ _ 0 0 53 _ (.int _ :: []) _ _
          refine ab_goto (tgt := 79) dX12_deed_53 (by decide) ?_
          cases Option.some.inj hf
          exact ab_retI dX12_deed_79 (Or.inl rfl) (Nat.le_refl _) (Nat.le_refl _) ⟨rfl, rfl⟩
      · refine ab_aload_n (x := _) (pc2 := 35) dX12_deed_34 rfl rfl ?_
        refine ab_iload_n (pc2 := 36) dX12_deed_35 rfl rfl ?_
        obtain ⟨w14, ew14, hf⟩ := ab_bind hf
        refine ab_callV (pc2 := 39) (st := []) rfl ht0 (by decide) (m_X12_costOf (d := (d + 1)) ht0 ew14) mf_X12_costOf tw_131 tw_130 ts_X12_costOf (Or.inl (by decide +kernel)) dX12_deed_36 rfl (by omega) (Nat.le_refl _) (Nat.le_refl _) rfl (Nat.le_of_ble_eq_true rfl) (fun v u hp => ?_)
        obtain ⟨rfl, rfl⟩ := hp
        show ab_T _ _ _ _ 0 0 39 _ (.int _ :: []) _ _
        refine ab_goto (tgt := 79) dX12_deed_39 (by decide) ?_
        cases Option.some.inj hf
        exact ab_retI dX12_deed_79 (Or.inl rfl) (Nat.le_refl _) (Nat.le_refl _) ⟨rfl, rfl⟩
    · refine ab_aload_n (x := _) (pc2 := 23) dX12_deed_22 rfl rfl ?_
      refine ab_iload_n (pc2 := 24) dX12_deed_23 rfl rfl ?_
      refine ab_iload_n (pc2 := 25) dX12_deed_24 rfl rfl ?_
      obtain ⟨w15, ew15, hf⟩ := ab_bind hf
      refine ab_callV (pc2 := 28) (st := []) rfl ht0 (by decide) (m_X12_get (d := (d + 2)) ht0 ew15) mf_X12_get tw_129 tw_128 ts_X12_get (Or.inl (by decide +kernel)) dX12_deed_25 rfl (by omega) (Nat.le_refl _) (Nat.le_refl _) rfl (Nat.le_of_ble_eq_true rfl) (fun v u hp => ?_)
      obtain ⟨rfl, rfl⟩ := hp
      show ab_T _ _ _ _ 0 0 28 _ (.int _ :: []) _ _
      cases Option.some.inj hf
      exact ab_retI dX12_deed_28 (Or.inl rfl) (Nat.le_refl _) (Nat.le_refl _) ⟨rfl, rfl⟩
  · refine ab_iconst (pc2 := 9) (v := (-1)) dX12_deed_8 rfl ab_k_iconst_m1 ?_
    cases Option.some.inj hf
    exact ab_retI dX12_deed_9 (Or.inl rfl) (Nat.le_refl _) (Nat.le_refl _) ⟨rfl, rfl⟩
set_option maxHeartbeats 4000000 in
set_option maxRecDepth 100000 in
theorem m_X12_deed {d : Nat} {t0 : Nat} {i1 : Int32} {i2 : Int32} {h : ab_HP} {r : Int32} (ht0 : (ab_shp t0).1 = 5) (hf : f_X12_deed t0 i1 i2 h = some r) : ab_MET mX12_deed (d + 3) 0 0 [va_rf (some t0), .int i1, .int i2] h (ab_Pi r h) := ab_met (by decide +kernel) (by decide +kernel) (Nat.le_of_ble_eq_true rfl) rfl (x_X12_deed ht0 hf)
set_option maxHeartbeats 4000000 in
set_option maxRecDepth 100000 in
theorem x_X12_marks {d : Nat} {t0 : Nat} {h : ab_HP} {r : Int32} (ht0 : (ab_shp t0).1 = 5) (hf : f_X12_marks t0 h = some r) : ab_T mX12_marks (d + 0) 0 0 0 0 0 [some (va_rf (some t0))] [] h (ab_Pi r h) := by
  unfold f_X12_marks at hf
  refine ab_aload_n (x := _) (pc2 := 1) dX12_marks_0 rfl rfl ?_
  refine ab_getR (pc2 := 4) rfl ht0 fa_X12_9 dX12_marks_1 rfl (fun T1 => ?_)
  refine ab_iconst (pc2 := 5) (v := 0) dX12_marks_4 rfl ab_k_iconst_0 ?_
  obtain ⟨q2, hq2, hf⟩ := ab_bind hf
  obtain ⟨b3, hf⟩ := ab_guard hf
  refine ab_iald (pc2 := 6) hq2 (T1 q2 hq2) (ab_in_vp b3) dX12_marks_5 rfl ?_
  cases Option.some.inj hf
  exact ab_retI dX12_marks_6 (Or.inl rfl) (Nat.le_refl _) (Nat.le_refl _) ⟨rfl, rfl⟩
set_option maxHeartbeats 4000000 in
set_option maxRecDepth 100000 in
theorem m_X12_marks {d : Nat} {t0 : Nat} {h : ab_HP} {r : Int32} (ht0 : (ab_shp t0).1 = 5) (hf : f_X12_marks t0 h = some r) : ab_MET mX12_marks (d + 0) 0 0 [va_rf (some t0)] h (ab_Pi r h) := ab_met (by decide +kernel) (by decide +kernel) (Nat.le_of_ble_eq_true rfl) rfl (x_X12_marks ht0 hf)
set_option maxHeartbeats 4000000 in
set_option maxRecDepth 100000 in
theorem x_X12_state {d : Nat} {t0 : Nat} {i1 : Int32} {h : ab_HP} {r : Int32} (ht0 : (ab_shp t0).1 = 5) (hf : f_X12_state t0 i1 h = some r) : ab_T mX12_state (d + 1) 0 0 0 0 0 [some (va_rf (some t0)), some (.int i1)] [] h (ab_Pi r h) := by
  unfold f_X12_state at hf
  refine ab_iload_n (pc2 := 1) dX12_state_0 rfl rfl ?_
  refine ab_i2l (pc2 := 2) dX12_state_1 rfl ?_
  refine ab_lconst (pc2 := 3) (v := 0) dX12_state_2 rfl rfl ?_
  refine ab_ldc2 (pc2 := 6) (v := 3) dX12_state_3 rfl tw_139 ?_
  obtain ⟨w1, ew1, hf⟩ := ab_bind hf
  refine ab_callS (pc2 := 9) (st := []) (m_X12_isIn (d := (d + 0)) ew1) mf_X12_isIn tw_101 tw_102 dX12_state_6 rfl (by omega) (Nat.le_refl _) (Nat.le_refl _) rfl (Nat.le_of_ble_eq_true rfl) (fun v u hp => ?_)
  obtain ⟨rfl, rfl, z2⟩ := hp
  show ab_T _ _ _ _ 0 0 9 _ (.int _ :: []) _ _
  refine ab_if_eq (tgt := 23) (pc2 := 12) dX12_state_9 (by decide) rfl hf (fun c3 hf => ?_) (fun c3 hf => ?_)
  · refine ab_iconst (pc2 := 24) (v := (-1)) dX12_state_23 rfl ab_k_iconst_m1 ?_
    cases Option.some.inj hf
    exact ab_retI dX12_state_24 (Or.inl rfl) (Nat.le_refl _) (Nat.le_refl _) ⟨rfl, rfl⟩
  · refine ab_aload_n (x := _) (pc2 := 13) dX12_state_12 rfl rfl ?_
    refine ab_getR (pc2 := 16) rfl ht0 fa_X12_9 dX12_state_13 rfl (fun T4 => ?_)
    refine ab_iconst (pc2 := 17) (v := 1) dX12_state_16 rfl ab_k_iconst_1 ?_
    refine ab_iload_n (pc2 := 18) dX12_state_17 rfl rfl ?_
    refine ab_iadd (pc2 := 19) dX12_state_18 rfl ?_
    obtain ⟨q5, hq5, hf⟩ := ab_bind hf
    obtain ⟨b6, hf⟩ := ab_guard hf
    refine ab_iald (pc2 := 20) hq5 (T4 q5 hq5) (ab_in_vp b6) dX12_state_19 rfl ?_
    refine ab_goto (tgt := 24) dX12_state_20 (by decide) ?_
    cases Option.some.inj hf
    exact ab_retI dX12_state_24 (Or.inl rfl) (Nat.le_refl _) (Nat.le_refl _) ⟨rfl, rfl⟩
set_option maxHeartbeats 4000000 in
set_option maxRecDepth 100000 in
theorem m_X12_state {d : Nat} {t0 : Nat} {i1 : Int32} {h : ab_HP} {r : Int32} (ht0 : (ab_shp t0).1 = 5) (hf : f_X12_state t0 i1 h = some r) : ab_MET mX12_state (d + 1) 0 0 [va_rf (some t0), .int i1] h (ab_Pi r h) := ab_met (by decide +kernel) (by decide +kernel) (Nat.le_of_ble_eq_true rfl) rfl (x_X12_state ht0 hf)
set_option maxHeartbeats 4000000 in
set_option maxRecDepth 100000 in
theorem x_X12_rise {d : Nat} {t0 : Nat} {h : ab_HP} {r : Int32} (ht0 : (ab_shp t0).1 = 5) (hf : f_X12_rise t0 h = some r) : ab_T mX12_rise (d + 0) 0 0 0 0 0 [some (va_rf (some t0))] [] h (ab_Pi r h) := by
  unfold f_X12_rise at hf
  refine ab_aload_n (x := _) (pc2 := 1) dX12_rise_0 rfl rfl ?_
  refine ab_getR (pc2 := 4) rfl ht0 fa_X12_9 dX12_rise_1 rfl (fun T1 => ?_)
  refine ab_iconst (pc2 := 5) (v := 5) dX12_rise_4 rfl ab_k_iconst_5 ?_
  obtain ⟨q2, hq2, hf⟩ := ab_bind hf
  obtain ⟨b3, hf⟩ := ab_guard hf
  refine ab_iald (pc2 := 6) hq2 (T1 q2 hq2) (ab_in_vp b3) dX12_rise_5 rfl ?_
  cases Option.some.inj hf
  exact ab_retI dX12_rise_6 (Or.inl rfl) (Nat.le_refl _) (Nat.le_refl _) ⟨rfl, rfl⟩
set_option maxHeartbeats 4000000 in
set_option maxRecDepth 100000 in
theorem m_X12_rise {d : Nat} {t0 : Nat} {h : ab_HP} {r : Int32} (ht0 : (ab_shp t0).1 = 5) (hf : f_X12_rise t0 h = some r) : ab_MET mX12_rise (d + 0) 0 0 [va_rf (some t0)] h (ab_Pi r h) := ab_met (by decide +kernel) (by decide +kernel) (Nat.le_of_ble_eq_true rfl) rfl (x_X12_rise ht0 hf)
set_option maxHeartbeats 4000000 in
set_option maxRecDepth 100000 in
theorem x_X12_set {d : Nat} {t0 : Nat} {i1 : Int32} {i2 : Int32} {h : ab_HP} {r : (Int32 × ab_HP)} (ht0 : (ab_shp t0).1 = 5) (hf : f_X12_set t0 i1 i2 h = some r) : ab_T mX12_set (d + 1) 0 0 0 0 0 [some (va_rf (some t0)), some (.int i1), some (.int i2), none, none] [] h (ab_Pi r.1 r.2) := by
  unfold f_X12_set at hf
  refine ab_iload_n (pc2 := 1) dX12_set_0 rfl rfl ?_
  refine ab_i2l (pc2 := 2) dX12_set_1 rfl ?_
  refine ab_lconst (pc2 := 3) (v := 0) dX12_set_2 rfl rfl ?_
  refine ab_ldc2 (pc2 := 6) (v := 2) dX12_set_3 rfl tw_143 ?_
  obtain ⟨w1, ew1, hf⟩ := ab_bind hf
  refine ab_callS (pc2 := 9) (st := []) (m_X12_isIn (d := (d + 0)) ew1) mf_X12_isIn tw_101 tw_102 dX12_set_6 rfl (by omega) (Nat.le_refl _) (Nat.le_refl _) rfl (Nat.le_of_ble_eq_true rfl) (fun v u hp => ?_)
  obtain ⟨rfl, rfl, z2⟩ := hp
  show ab_T _ _ _ _ 0 0 9 _ (.int _ :: []) _ _
  refine ab_if_eq (tgt := 45) (pc2 := 12) dX12_set_9 (by decide) rfl hf (fun c3 hf => ?_) (fun c3 hf => ?_)
  · refine ab_iconst (pc2 := 46) (v := (-1)) dX12_set_45 rfl ab_k_iconst_m1 ?_
    cases Option.some.inj hf
    exact ab_retI dX12_set_46 (Or.inl rfl) (Nat.le_refl _) (Nat.le_refl _) ⟨rfl, rfl⟩
  · refine ab_iload_n (pc2 := 13) dX12_set_12 rfl rfl ?_
    refine ab_i2l (pc2 := 14) dX12_set_13 rfl ?_
    refine ab_lconst (pc2 := 15) (v := 0) dX12_set_14 rfl rfl ?_
    refine ab_iload_n (pc2 := 16) dX12_set_15 rfl rfl ?_
    refine ab_if_ne (tgt := 25) (pc2 := 19) dX12_set_16 (by decide) rfl hf (fun c4 hf => ?_) (fun c4 hf => ?_)
    · refine ab_iload_n (pc2 := 26) dX12_set_25 rfl rfl ?_
      refine ab_iconst (pc2 := 27) (v := 1) dX12_set_26 rfl ab_k_iconst_1 ?_
      refine ab_icmp_ne (tgt := 36) (pc2 := 30) dX12_set_27 (by decide) rfl hf (fun c5 hf => ?_) (fun c5 hf => ?_)
      · refine ab_ldc2 (pc2 := 39) (v := 9999) dX12_set_36 rfl tw_144 ?_
        obtain ⟨w6, ew6, hf⟩ := ab_bind hf
        refine ab_callS (pc2 := 42) (st := []) (m_X12_isIn (d := (d + 0)) ew6) mf_X12_isIn tw_101 tw_102 dX12_set_39 rfl (by omega) (Nat.le_refl _) (Nat.le_refl _) rfl (Nat.le_of_ble_eq_true rfl) (fun v u hp => ?_)
        obtain ⟨rfl, rfl, z7⟩ := hp
        show ab_T _ _ _ _ 0 0 42 _ (.int _ :: []) _ _
        refine ab_if_ne (tgt := 47) (pc2 := 45) dX12_set_42 (by decide) rfl hf (fun c8 hf => ?_) (fun c8 hf => ?_)
        · refine ab_iload_n (pc2 := 48) dX12_set_47 rfl rfl ?_
          refine ab_if_ne (tgt := 55) (pc2 := 51) dX12_set_48 (by decide) rfl hf (fun c9 hf => ?_) (fun c9 hf => ?_)
          · refine ab_iload_n (pc2 := 56) dX12_set_55 rfl rfl ?_
            refine ab_iconst (pc2 := 57) (v := 1) dX12_set_56 rfl ab_k_iconst_1 ?_
            refine ab_icmp_ne (tgt := 64) (pc2 := 60) dX12_set_57 (by decide) rfl hf (fun c10 hf => ?_) (fun c10 hf => ?_)
            · refine ab_iconst (pc2 := 65) (v := 1) dX12_set_64 rfl ab_k_iconst_1 ?_
              refine ab_istore_n (pc2 := 66) (lo2 := [some (va_rf _), some (.int _), some (.int _), some (.int _), none]) dX12_set_65 rfl (by decide) rfl ?_
              refine ab_aload_n (x := _) (pc2 := 67) dX12_set_66 rfl rfl ?_
              refine ab_getR (pc2 := 70) rfl ht0 fa_X12_9 dX12_set_67 rfl (fun T11 => ?_)
              refine ab_iload_n (pc2 := 71) dX12_set_70 rfl rfl ?_
              obtain ⟨q12, hq12, hf⟩ := ab_bind hf
              obtain ⟨b13, hf⟩ := ab_guard hf
              refine ab_iald (pc2 := 72) hq12 (T11 q12 hq12) (ab_in_vp b13) dX12_set_71 rfl ?_
              refine ab_istore (pc2 := 74) (lo2 := [some (va_rf _), some (.int _), some (.int _), some (.int _), some (.int _)]) dX12_set_72 rfl (by decide) rfl ?_
              refine ab_aload_n (x := _) (pc2 := 75) dX12_set_74 rfl rfl ?_
              refine ab_getR (pc2 := 78) rfl ht0 fa_X12_9 dX12_set_75 rfl (fun T14 => ?_)
              refine ab_iload_n (pc2 := 79) dX12_set_78 rfl rfl ?_
              refine ab_iload_n (pc2 := 80) dX12_set_79 rfl rfl ?_
              obtain ⟨q15, hq15, hf⟩ := ab_bind hf
              obtain ⟨b16, hf⟩ := ab_guard hf
              have hf := ab_let_e hf
              refine ab_iast (pc2 := 81) hq15 (T14 q15 hq15) (ab_in_vp b16) dX12_set_80 rfl ?_
              refine ab_iload (pc2 := 83) dX12_set_81 rfl rfl ?_
              cases Option.some.inj hf
              exact ab_retI dX12_set_83 (Or.inl rfl) (Nat.le_refl _) (Nat.le_refl _) ⟨rfl, rfl⟩
            · refine ab_iconst (pc2 := 61) (v := 4) dX12_set_60 rfl ab_k_iconst_4 ?_
              refine ab_goto (tgt := 65) dX12_set_61 (by decide) ?_
              refine ab_istore_n (pc2 := 66) (lo2 := [some (va_rf _), some (.int _), some (.int _), some (.int _), none]) dX12_set_65 rfl (by decide) rfl ?_
              refine ab_aload_n (x := _) (pc2 := 67) dX12_set_66 rfl rfl ?_
              refine ab_getR (pc2 := 70) rfl ht0 fa_X12_9 dX12_set_67 rfl (fun T18 => ?_)
              refine ab_iload_n (pc2 := 71) dX12_set_70 rfl rfl ?_
              obtain ⟨q19, hq19, hf⟩ := ab_bind hf
              obtain ⟨b20, hf⟩ := ab_guard hf
              refine ab_iald (pc2 := 72) hq19 (T18 q19 hq19) (ab_in_vp b20) dX12_set_71 rfl ?_
              refine ab_istore (pc2 := 74) (lo2 := [some (va_rf _), some (.int _), some (.int _), some (.int _), some (.int _)]) dX12_set_72 rfl (by decide) rfl ?_
              refine ab_aload_n (x := _) (pc2 := 75) dX12_set_74 rfl rfl ?_
              refine ab_getR (pc2 := 78) rfl ht0 fa_X12_9 dX12_set_75 rfl (fun T21 => ?_)
              refine ab_iload_n (pc2 := 79) dX12_set_78 rfl rfl ?_
              refine ab_iload_n (pc2 := 80) dX12_set_79 rfl rfl ?_
              obtain ⟨q22, hq22, hf⟩ := ab_bind hf
              obtain ⟨b23, hf⟩ := ab_guard hf
              have hf := ab_let_e hf
              refine ab_iast (pc2 := 81) hq22 (T21 q22 hq22) (ab_in_vp b23) dX12_set_80 rfl ?_
              refine ab_iload (pc2 := 83) dX12_set_81 rfl rfl ?_
              cases Option.some.inj hf
              exact ab_retI dX12_set_83 (Or.inl rfl) (Nat.le_refl _) (Nat.le_refl _) ⟨rfl, rfl⟩
          · refine ab_iconst (pc2 := 52) (v := 3) dX12_set_51 rfl ab_k_iconst_3 ?_
            refine ab_goto (tgt := 65) dX12_set_52 (by decide) ?_
            refine ab_istore_n (pc2 := 66) (lo2 := [some (va_rf _), some (.int _), some (.int _), some (.int _), none]) dX12_set_65 rfl (by decide) rfl ?_
            refine ab_aload_n (x := _) (pc2 := 67) dX12_set_66 rfl rfl ?_
            refine ab_getR (pc2 := 70) rfl ht0 fa_X12_9 dX12_set_67 rfl (fun T25 => ?_)
            refine ab_iload_n (pc2 := 71) dX12_set_70 rfl rfl ?_
            obtain ⟨q26, hq26, hf⟩ := ab_bind hf
            obtain ⟨b27, hf⟩ := ab_guard hf
            refine ab_iald (pc2 := 72) hq26 (T25 q26 hq26) (ab_in_vp b27) dX12_set_71 rfl ?_
            refine ab_istore (pc2 := 74) (lo2 := [some (va_rf _), some (.int _), some (.int _), some (.int _), some (.int _)]) dX12_set_72 rfl (by decide) rfl ?_
            refine ab_aload_n (x := _) (pc2 := 75) dX12_set_74 rfl rfl ?_
            refine ab_getR (pc2 := 78) rfl ht0 fa_X12_9 dX12_set_75 rfl (fun T28 => ?_)
            refine ab_iload_n (pc2 := 79) dX12_set_78 rfl rfl ?_
            refine ab_iload_n (pc2 := 80) dX12_set_79 rfl rfl ?_
            obtain ⟨q29, hq29, hf⟩ := ab_bind hf
            obtain ⟨b30, hf⟩ := ab_guard hf
            have hf := ab_let_e hf
            refine ab_iast (pc2 := 81) hq29 (T28 q29 hq29) (ab_in_vp b30) dX12_set_80 rfl ?_
            refine ab_iload (pc2 := 83) dX12_set_81 rfl rfl ?_
            cases Option.some.inj hf
            exact ab_retI dX12_set_83 (Or.inl rfl) (Nat.le_refl _) (Nat.le_refl _) ⟨rfl, rfl⟩
        · refine ab_iconst (pc2 := 46) (v := (-1)) dX12_set_45 rfl ab_k_iconst_m1 ?_
          cases Option.some.inj hf
          exact ab_retI dX12_set_46 (Or.inl rfl) (Nat.le_refl _) (Nat.le_refl _) ⟨rfl, rfl⟩
      · refine ab_ldc2 (pc2 := 33) (v := 99) dX12_set_30 rfl tw_145 ?_
        refine ab_goto (tgt := 39) dX12_set_33 (by decide) ?_
        obtain ⟨w32, ew32, hf⟩ := ab_bind hf
        refine ab_callS (pc2 := 42) (st := []) (m_X12_isIn (d := (d + 0)) ew32) mf_X12_isIn tw_101 tw_102 dX12_set_39 rfl (by omega) (Nat.le_refl _) (Nat.le_refl _) rfl (Nat.le_of_ble_eq_true rfl) (fun v u hp => ?_)
        obtain ⟨rfl, rfl, z33⟩ := hp
        show ab_T _ _ _ _ 0 0 42 _ (.int _ :: []) _ _
        refine ab_if_ne (tgt := 47) (pc2 := 45) dX12_set_42 (by decide) rfl hf (fun c34 hf => ?_) (fun c34 hf => ?_)
        · refine ab_iload_n (pc2 := 48) dX12_set_47 rfl rfl ?_
          refine ab_if_ne (tgt := 55) (pc2 := 51) dX12_set_48 (by decide) rfl hf (fun c35 hf => ?_) (fun c35 hf => ?_)
          · refine ab_iload_n (pc2 := 56) dX12_set_55 rfl rfl ?_
            refine ab_iconst (pc2 := 57) (v := 1) dX12_set_56 rfl ab_k_iconst_1 ?_
            refine ab_icmp_ne (tgt := 64) (pc2 := 60) dX12_set_57 (by decide) rfl hf (fun c36 hf => ?_) (fun c36 hf => ?_)
            · refine ab_iconst (pc2 := 65) (v := 1) dX12_set_64 rfl ab_k_iconst_1 ?_
              refine ab_istore_n (pc2 := 66) (lo2 := [some (va_rf _), some (.int _), some (.int _), some (.int _), none]) dX12_set_65 rfl (by decide) rfl ?_
              refine ab_aload_n (x := _) (pc2 := 67) dX12_set_66 rfl rfl ?_
              refine ab_getR (pc2 := 70) rfl ht0 fa_X12_9 dX12_set_67 rfl (fun T37 => ?_)
              refine ab_iload_n (pc2 := 71) dX12_set_70 rfl rfl ?_
              obtain ⟨q38, hq38, hf⟩ := ab_bind hf
              obtain ⟨b39, hf⟩ := ab_guard hf
              refine ab_iald (pc2 := 72) hq38 (T37 q38 hq38) (ab_in_vp b39) dX12_set_71 rfl ?_
              refine ab_istore (pc2 := 74) (lo2 := [some (va_rf _), some (.int _), some (.int _), some (.int _), some (.int _)]) dX12_set_72 rfl (by decide) rfl ?_
              refine ab_aload_n (x := _) (pc2 := 75) dX12_set_74 rfl rfl ?_
              refine ab_getR (pc2 := 78) rfl ht0 fa_X12_9 dX12_set_75 rfl (fun T40 => ?_)
              refine ab_iload_n (pc2 := 79) dX12_set_78 rfl rfl ?_
              refine ab_iload_n (pc2 := 80) dX12_set_79 rfl rfl ?_
              obtain ⟨q41, hq41, hf⟩ := ab_bind hf
              obtain ⟨b42, hf⟩ := ab_guard hf
              have hf := ab_let_e hf
              refine ab_iast (pc2 := 81) hq41 (T40 q41 hq41) (ab_in_vp b42) dX12_set_80 rfl ?_
              refine ab_iload (pc2 := 83) dX12_set_81 rfl rfl ?_
              cases Option.some.inj hf
              exact ab_retI dX12_set_83 (Or.inl rfl) (Nat.le_refl _) (Nat.le_refl _) ⟨rfl, rfl⟩
            · refine ab_iconst (pc2 := 61) (v := 4) dX12_set_60 rfl ab_k_iconst_4 ?_
              refine ab_goto (tgt := 65) dX12_set_61 (by decide) ?_
              refine ab_istore_n (pc2 := 66) (lo2 := [some (va_rf _), some (.int _), some (.int _), some (.int _), none]) dX12_set_65 rfl (by decide) rfl ?_
              refine ab_aload_n (x := _) (pc2 := 67) dX12_set_66 rfl rfl ?_
              refine ab_getR (pc2 := 70) rfl ht0 fa_X12_9 dX12_set_67 rfl (fun T44 => ?_)
              refine ab_iload_n (pc2 := 71) dX12_set_70 rfl rfl ?_
              obtain ⟨q45, hq45, hf⟩ := ab_bind hf
              obtain ⟨b46, hf⟩ := ab_guard hf
              refine ab_iald (pc2 := 72) hq45 (T44 q45 hq45) (ab_in_vp b46) dX12_set_71 rfl ?_
              refine ab_istore (pc2 := 74) (lo2 := [some (va_rf _), some (.int _), some (.int _), some (.int _), some (.int _)]) dX12_set_72 rfl (by decide) rfl ?_
              refine ab_aload_n (x := _) (pc2 := 75) dX12_set_74 rfl rfl ?_
              refine ab_getR (pc2 := 78) rfl ht0 fa_X12_9 dX12_set_75 rfl (fun T47 => ?_)
              refine ab_iload_n (pc2 := 79) dX12_set_78 rfl rfl ?_
              refine ab_iload_n (pc2 := 80) dX12_set_79 rfl rfl ?_
              obtain ⟨q48, hq48, hf⟩ := ab_bind hf
              obtain ⟨b49, hf⟩ := ab_guard hf
              have hf := ab_let_e hf
              refine ab_iast (pc2 := 81) hq48 (T47 q48 hq48) (ab_in_vp b49) dX12_set_80 rfl ?_
              refine ab_iload (pc2 := 83) dX12_set_81 rfl rfl ?_
              cases Option.some.inj hf
              exact ab_retI dX12_set_83 (Or.inl rfl) (Nat.le_refl _) (Nat.le_refl _) ⟨rfl, rfl⟩
          · refine ab_iconst (pc2 := 52) (v := 3) dX12_set_51 rfl ab_k_iconst_3 ?_
            refine ab_goto (tgt := 65) dX12_set_52 (by decide) ?_
            refine ab_istore_n (pc2 := 66) (lo2 := [some (va_rf _), some (.int _), some (.int _), some (.int _), none]) dX12_set_65 rfl (by decide) rfl ?_
            refine ab_aload_n (x := _) (pc2 := 67) dX12_set_66 rfl rfl ?_
            refine ab_getR (pc2 := 70) rfl ht0 fa_X12_9 dX12_set_67 rfl (fun T51 => ?_)
            refine ab_iload_n (pc2 := 71) dX12_set_70 rfl rfl ?_
            obtain ⟨q52, hq52, hf⟩ := ab_bind hf
            obtain ⟨b53, hf⟩ := ab_guard hf
            refine ab_iald (pc2 := 72) hq52 (T51 q52 hq52) (ab_in_vp b53) dX12_set_71 rfl ?_
            refine ab_istore (pc2 := 74) (lo2 := [some (va_rf _), some (.int _), some (.int _), some (.int _), some (.int _)]) dX12_set_72 rfl (by decide) rfl ?_
            refine ab_aload_n (x := _) (pc2 := 75) dX12_set_74 rfl rfl ?_
            refine ab_getR (pc2 := 78) rfl ht0 fa_X12_9 dX12_set_75 rfl (fun T54 => ?_)
            refine ab_iload_n (pc2 := 79) dX12_set_78 rfl rfl ?_
            refine ab_iload_n (pc2 := 80) dX12_set_79 rfl rfl ?_
            obtain ⟨q55, hq55, hf⟩ := ab_bind hf
            obtain ⟨b56, hf⟩ := ab_guard hf
            have hf := ab_let_e hf
            refine ab_iast (pc2 := 81) hq55 (T54 q55 hq55) (ab_in_vp b56) dX12_set_80 rfl ?_
            refine ab_iload (pc2 := 83) dX12_set_81 rfl rfl ?_
            cases Option.some.inj hf
            exact ab_retI dX12_set_83 (Or.inl rfl) (Nat.le_refl _) (Nat.le_refl _) ⟨rfl, rfl⟩
        · refine ab_iconst (pc2 := 46) (v := (-1)) dX12_set_45 rfl ab_k_iconst_m1 ?_
          cases Option.some.inj hf
          exact ab_retI dX12_set_46 (Or.inl rfl) (Nat.le_refl _) (Nat.le_refl _) ⟨rfl, rfl⟩
    · refine ab_ldc2 (pc2 := 22) (v := 2) dX12_set_19 rfl tw_143 ?_
      refine ab_goto (tgt := 39) dX12_set_22 (by decide) ?_
      obtain ⟨w58, ew58, hf⟩ := ab_bind hf
      refine ab_callS (pc2 := 42) (st := []) (m_X12_isIn (d := (d + 0)) ew58) mf_X12_isIn tw_101 tw_102 dX12_set_39 rfl (by omega) (Nat.le_refl _) (Nat.le_refl _) rfl (Nat.le_of_ble_eq_true rfl) (fun v u hp => ?_)
      obtain ⟨rfl, rfl, z59⟩ := hp
      show ab_T _ _ _ _ 0 0 42 _ (.int _ :: []) _ _
      refine ab_if_ne (tgt := 47) (pc2 := 45) dX12_set_42 (by decide) rfl hf (fun c60 hf => ?_) (fun c60 hf => ?_)
      · refine ab_iload_n (pc2 := 48) dX12_set_47 rfl rfl ?_
        refine ab_if_ne (tgt := 55) (pc2 := 51) dX12_set_48 (by decide) rfl hf (fun c61 hf => ?_) (fun c61 hf => ?_)
        · refine ab_iload_n (pc2 := 56) dX12_set_55 rfl rfl ?_
          refine ab_iconst (pc2 := 57) (v := 1) dX12_set_56 rfl ab_k_iconst_1 ?_
          refine ab_icmp_ne (tgt := 64) (pc2 := 60) dX12_set_57 (by decide) rfl hf (fun c62 hf => ?_) (fun c62 hf => ?_)
          · refine ab_iconst (pc2 := 65) (v := 1) dX12_set_64 rfl ab_k_iconst_1 ?_
            refine ab_istore_n (pc2 := 66) (lo2 := [some (va_rf _), some (.int _), some (.int _), some (.int _), none]) dX12_set_65 rfl (by decide) rfl ?_
            refine ab_aload_n (x := _) (pc2 := 67) dX12_set_66 rfl rfl ?_
            refine ab_getR (pc2 := 70) rfl ht0 fa_X12_9 dX12_set_67 rfl (fun T63 => ?_)
            refine ab_iload_n (pc2 := 71) dX12_set_70 rfl rfl ?_
            obtain ⟨q64, hq64, hf⟩ := ab_bind hf
            obtain ⟨b65, hf⟩ := ab_guard hf
            refine ab_iald (pc2 := 72) hq64 (T63 q64 hq64) (ab_in_vp b65) dX12_set_71 rfl ?_
            refine ab_istore (pc2 := 74) (lo2 := [some (va_rf _), some (.int _), some (.int _), some (.int _), some (.int _)]) dX12_set_72 rfl (by decide) rfl ?_
            refine ab_aload_n (x := _) (pc2 := 75) dX12_set_74 rfl rfl ?_
            refine ab_getR (pc2 := 78) rfl ht0 fa_X12_9 dX12_set_75 rfl (fun T66 => ?_)
            refine ab_iload_n (pc2 := 79) dX12_set_78 rfl rfl ?_
            refine ab_iload_n (pc2 := 80) dX12_set_79 rfl rfl ?_
            obtain ⟨q67, hq67, hf⟩ := ab_bind hf
            obtain ⟨b68, hf⟩ := ab_guard hf
            have hf := ab_let_e hf
            refine ab_iast (pc2 := 81) hq67 (T66 q67 hq67) (ab_in_vp b68) dX12_set_80 rfl ?_
            refine ab_iload (pc2 := 83) dX12_set_81 rfl rfl ?_
            cases Option.some.inj hf
            exact ab_retI dX12_set_83 (Or.inl rfl) (Nat.le_refl _) (Nat.le_refl _) ⟨rfl, rfl⟩
          · refine ab_iconst (pc2 := 61) (v := 4) dX12_set_60 rfl ab_k_iconst_4 ?_
            refine ab_goto (tgt := 65) dX12_set_61 (by decide) ?_
            refine ab_istore_n (pc2 := 66) (lo2 := [some (va_rf _), some (.int _), some (.int _), some (.int _), none]) dX12_set_65 rfl (by decide) rfl ?_
            refine ab_aload_n (x := _) (pc2 := 67) dX12_set_66 rfl rfl ?_
            refine ab_getR (pc2 := 70) rfl ht0 fa_X12_9 dX12_set_67 rfl (fun T70 => ?_)
            refine ab_iload_n (pc2 := 71) dX12_set_70 rfl rfl ?_
            obtain ⟨q71, hq71, hf⟩ := ab_bind hf
            obtain ⟨b72, hf⟩ := ab_guard hf
            refine ab_iald (pc2 := 72) hq71 (T70 q71 hq71) (ab_in_vp b72) dX12_set_71 rfl ?_
            refine ab_istore (pc2 := 74) (lo2 := [some (va_rf _), some (.int _), some (.int _), some (.int _), some (.int _)]) dX12_set_72 rfl (by decide) rfl ?_
            refine ab_aload_n (x := _) (pc2 := 75) dX12_set_74 rfl rfl ?_
            refine ab_getR (pc2 := 78) rfl ht0 fa_X12_9 dX12_set_75 rfl (fun T73 => ?_)
            refine ab_iload_n (pc2 := 79) dX12_set_78 rfl rfl ?_
            refine ab_iload_n (pc2 := 80) dX12_set_79 rfl rfl ?_
            obtain ⟨q74, hq74, hf⟩ := ab_bind hf
            obtain ⟨b75, hf⟩ := ab_guard hf
            have hf := ab_let_e hf
            refine ab_iast (pc2 := 81) hq74 (T73 q74 hq74) (ab_in_vp b75) dX12_set_80 rfl ?_
            refine ab_iload (pc2 := 83) dX12_set_81 rfl rfl ?_
            cases Option.some.inj hf
            exact ab_retI dX12_set_83 (Or.inl rfl) (Nat.le_refl _) (Nat.le_refl _) ⟨rfl, rfl⟩
        · refine ab_iconst (pc2 := 52) (v := 3) dX12_set_51 rfl ab_k_iconst_3 ?_
          refine ab_goto (tgt := 65) dX12_set_52 (by decide) ?_
          refine ab_istore_n (pc2 := 66) (lo2 := [some (va_rf _), some (.int _), some (.int _), some (.int _), none]) dX12_set_65 rfl (by decide) rfl ?_
          refine ab_aload_n (x := _) (pc2 := 67) dX12_set_66 rfl rfl ?_
          refine ab_getR (pc2 := 70) rfl ht0 fa_X12_9 dX12_set_67 rfl (fun T77 => ?_)
          refine ab_iload_n (pc2 := 71) dX12_set_70 rfl rfl ?_
          obtain ⟨q78, hq78, hf⟩ := ab_bind hf
          obtain ⟨b79, hf⟩ := ab_guard hf
          refine ab_iald (pc2 := 72) hq78 (T77 q78 hq78) (ab_in_vp b79) dX12_set_71 rfl ?_
          refine ab_istore (pc2 := 74) (lo2 := [some (va_rf _), some (.int _), some (.int _), some (.int _), some (.int _)]) dX12_set_72 rfl (by decide) rfl ?_
          refine ab_aload_n (x := _) (pc2 := 75) dX12_set_74 rfl rfl ?_
          refine ab_getR (pc2 := 78) rfl ht0 fa_X12_9 dX12_set_75 rfl (fun T80 => ?_)
          refine ab_iload_n (pc2 := 79) dX12_set_78 rfl rfl ?_
          refine ab_iload_n (pc2 := 80) dX12_set_79 rfl rfl ?_
          obtain ⟨q81, hq81, hf⟩ := ab_bind hf
          obtain ⟨b82, hf⟩ := ab_guard hf
          have hf := ab_let_e hf
          refine ab_iast (pc2 := 81) hq81 (T80 q81 hq81) (ab_in_vp b82) dX12_set_80 rfl ?_
          refine ab_iload (pc2 := 83) dX12_set_81 rfl rfl ?_
          cases Option.some.inj hf
          exact ab_retI dX12_set_83 (Or.inl rfl) (Nat.le_refl _) (Nat.le_refl _) ⟨rfl, rfl⟩
      · refine ab_iconst (pc2 := 46) (v := (-1)) dX12_set_45 rfl ab_k_iconst_m1 ?_
        cases Option.some.inj hf
        exact ab_retI dX12_set_46 (Or.inl rfl) (Nat.le_refl _) (Nat.le_refl _) ⟨rfl, rfl⟩
set_option maxHeartbeats 4000000 in
set_option maxRecDepth 100000 in
theorem m_X12_set {d : Nat} {t0 : Nat} {i1 : Int32} {i2 : Int32} {h : ab_HP} {r : (Int32 × ab_HP)} (ht0 : (ab_shp t0).1 = 5) (hf : f_X12_set t0 i1 i2 h = some r) : ab_MET mX12_set (d + 1) 0 0 [va_rf (some t0), .int i1, .int i2] h (ab_Pi r.1 r.2) := ab_met (by decide +kernel) (by decide +kernel) (Nat.le_of_ble_eq_true rfl) rfl (x_X12_set ht0 hf)
set_option maxHeartbeats 4000000 in
set_option maxRecDepth 100000 in
theorem x_X12_mayBy {d : Nat} {t0 : Nat} {i1 : Int32} {i2 : Int32} {i3 : Int32} {h : ab_HP} {r : Int32} (ht0 : (ab_shp t0).1 = 5) (hf : f_X12_mayBy t0 i1 i2 i3 h = some r) : ab_T mX12_mayBy (d + 2) 0 0 0 0 0 [some (va_rf (some t0)), some (.int i1), some (.int i2), some (.int i3)] [] h (ab_Pb r h) := by
  unfold f_X12_mayBy at hf
  refine ab_aload_n (x := _) (pc2 := 1) dX12_mayBy_0 rfl rfl ?_
  refine ab_iload_n (pc2 := 2) dX12_mayBy_1 rfl rfl ?_
  refine ab_iconst (pc2 := 3) (v := 1) dX12_mayBy_2 rfl ab_k_iconst_1 ?_
  obtain ⟨w1, ew1, hf⟩ := ab_bind hf
  refine ab_callV (pc2 := 6) (st := []) rfl ht0 (by decide) (m_X12_get (d := (d + 1)) ht0 ew1) mf_X12_get tw_129 tw_128 ts_X12_get (Or.inl (by decide +kernel)) dX12_mayBy_3 rfl (by omega) (Nat.le_refl _) (Nat.le_refl _) rfl (Nat.le_of_ble_eq_true rfl) (fun v u hp => ?_)
  obtain ⟨rfl, rfl⟩ := hp
  show ab_T _ _ _ _ 0 0 6 _ (.int _ :: []) _ _
  refine ab_iload_n (pc2 := 7) dX12_mayBy_6 rfl rfl ?_
  refine ab_iconst (pc2 := 8) (v := (-1)) dX12_mayBy_7 rfl ab_k_iconst_m1 ?_
  refine ab_ixor (pc2 := 9) dX12_mayBy_8 rfl ?_
  refine ab_iand (pc2 := 10) dX12_mayBy_9 rfl ?_
  refine ab_if_ne (tgt := 26) (pc2 := 13) dX12_mayBy_10 (by decide) rfl hf (fun c2 hf => ?_) (fun c2 hf => ?_)
  · refine ab_iconst (pc2 := 27) (v := 0) dX12_mayBy_26 rfl ab_k_iconst_0 ?_
    cases Option.some.inj hf
    exact ab_retI dX12_mayBy_27 (Or.inr ⟨rfl, (Or.inl rfl)⟩) (Nat.le_refl _) (Nat.le_refl _) ⟨rfl, rfl, (Or.inl rfl)⟩
  · refine ab_iload_n (pc2 := 14) dX12_mayBy_13 rfl rfl ?_
    refine ab_aload_n (x := _) (pc2 := 15) dX12_mayBy_14 rfl rfl ?_
    refine ab_iload_n (pc2 := 16) dX12_mayBy_15 rfl rfl ?_
    obtain ⟨w3, ew3, hf⟩ := ab_bind hf
    refine ab_callV (pc2 := 19) (st := [_]) rfl ht0 (by decide) (m_X12_costOf (d := (d + 0)) ht0 ew3) mf_X12_costOf tw_131 tw_130 ts_X12_costOf (Or.inl (by decide +kernel)) dX12_mayBy_16 rfl (by omega) (Nat.le_refl _) (Nat.le_refl _) rfl (Nat.le_of_ble_eq_true rfl) (fun v u hp => ?_)
    obtain ⟨rfl, rfl⟩ := hp
    show ab_T _ _ _ _ 0 0 19 _ (.int _ :: [_]) _ _
    refine ab_icmp_lt (tgt := 26) (pc2 := 22) dX12_mayBy_19 (by decide) rfl hf (fun c4 hf => ?_) (fun c4 hf => ?_)
    · refine ab_iconst (pc2 := 27) (v := 0) dX12_mayBy_26 rfl ab_k_iconst_0 ?_
      cases Option.some.inj hf
      exact ab_retI dX12_mayBy_27 (Or.inr ⟨rfl, (Or.inl rfl)⟩) (Nat.le_refl _) (Nat.le_refl _) ⟨rfl, rfl, (Or.inl rfl)⟩
    · refine ab_iconst (pc2 := 23) (v := 1) dX12_mayBy_22 rfl ab_k_iconst_1 ?_
      refine ab_goto (tgt := 27) dX12_mayBy_23 (by decide) ?_
      cases Option.some.inj hf
      exact ab_retI dX12_mayBy_27 (Or.inr ⟨rfl, (Or.inr rfl)⟩) (Nat.le_refl _) (Nat.le_refl _) ⟨rfl, rfl, (Or.inr rfl)⟩
set_option maxHeartbeats 4000000 in
set_option maxRecDepth 100000 in
theorem m_X12_mayBy {d : Nat} {t0 : Nat} {i1 : Int32} {i2 : Int32} {i3 : Int32} {h : ab_HP} {r : Int32} (ht0 : (ab_shp t0).1 = 5) (hf : f_X12_mayBy t0 i1 i2 i3 h = some r) : ab_MET mX12_mayBy (d + 2) 0 0 [va_rf (some t0), .int i1, .int i2, .int i3] h (ab_Pb r h) := ab_met (by decide +kernel) (by decide +kernel) (Nat.le_of_ble_eq_true rfl) rfl (x_X12_mayBy ht0 hf)
set_option maxHeartbeats 4000000 in
set_option maxRecDepth 100000 in
theorem x_X12_may {d : Nat} {t0 : Nat} {i1 : Int32} {h : ab_HP} {r : Int32} (ht0 : (ab_shp t0).1 = 5) (hf : f_X12_may t0 i1 h = some r) : ab_T mX12_may (d + 3) 0 0 0 0 0 [some (va_rf (some t0)), some (.int i1)] [] h (ab_Pi r h) := by
  unfold f_X12_may at hf
  refine ab_aload_n (x := _) (pc2 := 1) dX12_may_0 rfl rfl ?_
  refine ab_iload_n (pc2 := 2) dX12_may_1 rfl rfl ?_
  obtain ⟨w1, ew1, hf⟩ := ab_bind hf
  refine ab_callV (pc2 := 5) (st := []) rfl ht0 (by decide) (m_X12_isDeed (d := (d + 1)) ht0 ew1) mf_X12_isDeed tw_133 tw_132 ts_X12_isDeed (Or.inl (by decide +kernel)) dX12_may_2 rfl (by omega) (Nat.le_refl _) (Nat.le_refl _) rfl (Nat.le_of_ble_eq_true rfl) (fun v u hp => ?_)
  obtain ⟨rfl, rfl, z2⟩ := hp
  show ab_T _ _ _ _ 0 0 5 _ (.int _ :: []) _ _
  refine ab_if_ne (tgt := 12) (pc2 := 8) dX12_may_5 (by decide) rfl hf (fun c3 hf => ?_) (fun c3 hf => ?_)
  · refine ab_aload_n (x := _) (pc2 := 13) dX12_may_12 rfl rfl ?_
    refine ab_iload_n (pc2 := 14) dX12_may_13 rfl rfl ?_
    refine ab_aload_n (x := _) (pc2 := 15) dX12_may_14 rfl rfl ?_
    refine ab_getR (pc2 := 18) rfl ht0 fa_X12_9 dX12_may_15 rfl (fun T4 => ?_)
    refine ab_iconst (pc2 := 19) (v := 0) dX12_may_18 rfl ab_k_iconst_0 ?_
    obtain ⟨q5, hq5, hf⟩ := ab_bind hf
    obtain ⟨b6, hf⟩ := ab_guard hf
    refine ab_iald (pc2 := 20) hq5 (T4 q5 hq5) (ab_in_vp b6) dX12_may_19 rfl ?_
    refine ab_aload_n (x := _) (pc2 := 21) dX12_may_20 rfl rfl ?_
    refine ab_getR (pc2 := 24) rfl ht0 fa_X12_9 dX12_may_21 rfl (fun T7 => ?_)
    refine ab_iconst (pc2 := 25) (v := 1) dX12_may_24 rfl ab_k_iconst_1 ?_
    obtain ⟨q8, hq8, hf⟩ := ab_bind hf
    obtain ⟨b9, hf⟩ := ab_guard hf
    refine ab_iald (pc2 := 26) hq8 (T7 q8 hq8) (ab_in_vp b9) dX12_may_25 rfl ?_
    obtain ⟨w10, ew10, hf⟩ := ab_bind hf
    refine ab_callV (pc2 := 29) (st := []) rfl ht0 (by decide) (m_X12_mayBy (d := (d + 0)) ht0 ew10) mf_X12_mayBy tw_153 tw_152 ts_X12_mayBy (Or.inl (by decide +kernel)) dX12_may_26 rfl (by omega) (Nat.le_refl _) (Nat.le_refl _) rfl (Nat.le_of_ble_eq_true rfl) (fun v u hp => ?_)
    obtain ⟨rfl, rfl, z11⟩ := hp
    show ab_T _ _ _ _ 0 0 29 _ (.int _ :: []) _ _
    refine ab_if_eq (tgt := 36) (pc2 := 32) dX12_may_29 (by decide) rfl hf (fun c12 hf => ?_) (fun c12 hf => ?_)
    · refine ab_iconst (pc2 := 37) (v := 0) dX12_may_36 rfl ab_k_iconst_0 ?_
      cases Option.some.inj hf
      exact ab_retI dX12_may_37 (Or.inl rfl) (Nat.le_refl _) (Nat.le_refl _) ⟨rfl, rfl⟩
    · refine ab_iconst (pc2 := 33) (v := 1) dX12_may_32 rfl ab_k_iconst_1 ?_
      refine ab_goto (tgt := 37) dX12_may_33 (by decide) ?_
      cases Option.some.inj hf
      exact ab_retI dX12_may_37 (Or.inl rfl) (Nat.le_refl _) (Nat.le_refl _) ⟨rfl, rfl⟩
  · refine ab_iconst (pc2 := 9) (v := (-1)) dX12_may_8 rfl ab_k_iconst_m1 ?_
    refine ab_goto (tgt := 37) dX12_may_9 (by decide) ?_
    cases Option.some.inj hf
    exact ab_retI dX12_may_37 (Or.inl rfl) (Nat.le_refl _) (Nat.le_refl _) ⟨rfl, rfl⟩
set_option maxHeartbeats 4000000 in
set_option maxRecDepth 100000 in
theorem m_X12_may {d : Nat} {t0 : Nat} {i1 : Int32} {h : ab_HP} {r : Int32} (ht0 : (ab_shp t0).1 = 5) (hf : f_X12_may t0 i1 h = some r) : ab_MET mX12_may (d + 3) 0 0 [va_rf (some t0), .int i1] h (ab_Pi r h) := ab_met (by decide +kernel) (by decide +kernel) (Nat.le_of_ble_eq_true rfl) rfl (x_X12_may ht0 hf)
set_option maxHeartbeats 4000000 in
set_option maxRecDepth 100000 in
theorem x_X12_areNails {d : Nat} {i0 : Int32} {h : ab_HP} {r : Int32}  (hf : f_X12_areNails i0 h = some r) : ab_T mX12_areNails (d + 1) 0 0 0 0 0 [some (.int i0)] [] h (ab_Pb r h) := by
  unfold f_X12_areNails at hf
  refine ab_iload_n (pc2 := 1) dX12_areNails_0 rfl rfl ?_
  refine ab_i2l (pc2 := 2) dX12_areNails_1 rfl ?_
  refine ab_lconst (pc2 := 3) (v := 0) dX12_areNails_2 rfl rfl ?_
  refine ab_ldc2 (pc2 := 6) (v := 255) dX12_areNails_3 rfl tw_204 ?_
  obtain ⟨w1, ew1, hf⟩ := ab_bind hf
  refine ab_callS (pc2 := 9) (st := []) (m_X12_isIn (d := (d + 0)) ew1) mf_X12_isIn tw_101 tw_102 dX12_areNails_6 rfl (by omega) (Nat.le_refl _) (Nat.le_refl _) rfl (Nat.le_of_ble_eq_true rfl) (fun v u hp => ?_)
  obtain ⟨rfl, rfl, z2⟩ := hp
  show ab_T _ _ _ _ 0 0 9 _ (.int _ :: []) _ _
  cases Option.some.inj hf
  exact ab_retI dX12_areNails_9 (Or.inr ⟨rfl, z2⟩) (Nat.le_refl _) (Nat.le_refl _) ⟨rfl, rfl, z2⟩
set_option maxHeartbeats 4000000 in
set_option maxRecDepth 100000 in
theorem m_X12_areNails {d : Nat} {i0 : Int32} {h : ab_HP} {r : Int32}  (hf : f_X12_areNails i0 h = some r) : ab_MET mX12_areNails (d + 1) 0 0 [.int i0] h (ab_Pb r h) := ab_met (by decide +kernel) (by decide +kernel) (Nat.le_of_ble_eq_true rfl) rfl (x_X12_areNails  hf)
set_option maxHeartbeats 4000000 in
set_option maxRecDepth 100000 in
theorem x_X12_wrongList_l29 {d : Nat} {t0 : Nat} {r : Int32} (ht0 : (ab_shp t0).1 = 5) : ∀ (n : Nat) (i1 : Int32) (i3 : Int32) (h : ab_HP), f_X12_wrongList_l29 t0 n i1 i3 h = some r → ab_T mX12_wrongList (d + 3) 0 0 0 0 29 [some (va_rf (some t0)), some (.int i1), none, some (.int i3)] [] h (ab_Pi r h) := by
  intro n
  induction n with
  | zero =>
    intro i1 i3 h hf
    rw [f_X12_wrongList_l29] at hf
    cases hf
  | succ n ih =>
    intro i1 i3 h hf
    rw [f_X12_wrongList_l29] at hf
    refine ab_iload_n (pc2 := 30) dX12_wrongList_29 rfl rfl ?_
    refine ab_aload_n (x := _) (pc2 := 31) dX12_wrongList_30 rfl rfl ?_
    refine ab_getR (pc2 := 34) rfl ht0 fa_X12_25 dX12_wrongList_31 rfl (fun T7 => ?_)
    refine ab_iload_n (pc2 := 35) dX12_wrongList_34 rfl rfl ?_
    obtain ⟨q8, hq8, hf⟩ := ab_bind hf
    obtain ⟨b9, hf⟩ := ab_guard hf
    refine ab_iald (pc2 := 36) hq8 (T7 q8 hq8) (ab_in_vp b9) dX12_wrongList_35 rfl ?_
    refine ab_icmp_ge (tgt := 66) (pc2 := 39) dX12_wrongList_36 (by decide) rfl hf (fun c10 hf => ?_) (fun c10 hf => ?_)
    · refine ab_iconst (pc2 := 67) (v := 0) dX12_wrongList_66 rfl ab_k_iconst_0 ?_
      cases Option.some.inj hf
      exact ab_retI dX12_wrongList_67 (Or.inl rfl) (Nat.le_refl _) (Nat.le_refl _) ⟨rfl, rfl⟩
    · refine ab_aload_n (x := _) (pc2 := 40) dX12_wrongList_39 rfl rfl ?_
      refine ab_aload_n (x := _) (pc2 := 41) dX12_wrongList_40 rfl rfl ?_
      refine ab_getR (pc2 := 44) rfl ht0 fa_X12_28 dX12_wrongList_41 rfl (fun T11 => ?_)
      refine ab_bipush (pc2 := 46) (v := 100) dX12_wrongList_44 rfl ab_k_bipush_100 ?_
      refine ab_iload_n (pc2 := 47) dX12_wrongList_46 rfl rfl ?_
      refine ab_imul (pc2 := 48) dX12_wrongList_47 rfl ?_
      refine ab_iload_n (pc2 := 49) dX12_wrongList_48 rfl rfl ?_
      refine ab_iadd (pc2 := 50) dX12_wrongList_49 rfl ?_
      obtain ⟨q12, hq12, hf⟩ := ab_bind hf
      obtain ⟨b13, hf⟩ := ab_guard hf
      refine ab_iald (pc2 := 51) hq12 (T11 q12 hq12) (ab_in_vp b13) dX12_wrongList_50 rfl ?_
      obtain ⟨w14, ew14, hf⟩ := ab_bind hf
      refine ab_callV (pc2 := 54) (st := []) rfl ht0 (by decide) (m_X12_isDeed (d := (d + 1)) ht0 ew14) mf_X12_isDeed tw_133 tw_132 ts_X12_isDeed (Or.inl (by decide +kernel)) dX12_wrongList_51 rfl (by omega) (Nat.le_refl _) (Nat.le_refl _) rfl (Nat.le_of_ble_eq_true rfl) (fun v u hp => ?_)
      obtain ⟨rfl, rfl, z15⟩ := hp
      show ab_T _ _ _ _ 0 0 54 _ (.int _ :: []) _ _
      refine ab_if_ne (tgt := 60) (pc2 := 57) dX12_wrongList_54 (by decide) rfl hf (fun c16 hf => ?_) (fun c16 hf => ?_)
      · refine ab_iinc (pc2 := 63) (v := _ + 1) (lo2 := [some (va_rf _), some (.int _), none, some (.int _)]) dX12_wrongList_60 rfl rfl rfl (by decide) rfl ?_
        refine ab_goto (tgt := 29) dX12_wrongList_63 (by decide) ?_
        exact ab_weak (ih _ _ _ hf) (ab_leS (ab_leS (ab_leN (ab_leS ab_le0))))
      · refine ab_bipush (pc2 := 59) (v := (-13)) dX12_wrongList_57 rfl ab_k_bipush_m13 ?_
        cases Option.some.inj hf
        exact ab_retI dX12_wrongList_59 (Or.inl rfl) (Nat.le_refl _) (Nat.le_refl _) ⟨rfl, rfl⟩
set_option maxHeartbeats 4000000 in
set_option maxRecDepth 100000 in
theorem x_X12_wrongList {d : Nat} {t0 : Nat} {i1 : Int32} {h : ab_HP} {r : Int32} (ht0 : (ab_shp t0).1 = 5) (hf : f_X12_wrongList t0 i1 h = some r) : ab_T mX12_wrongList (d + 3) 0 0 0 0 0 [some (va_rf (some t0)), some (.int i1), none, none] [] h (ab_Pi r h) := by
  unfold f_X12_wrongList at hf
  refine ab_aload_n (x := _) (pc2 := 1) dX12_wrongList_0 rfl rfl ?_
  refine ab_iload_n (pc2 := 2) dX12_wrongList_1 rfl rfl ?_
  refine ab_iconst (pc2 := 3) (v := 0) dX12_wrongList_2 rfl ab_k_iconst_0 ?_
  obtain ⟨w1, ew1, hf⟩ := ab_bind hf
  refine ab_callV (pc2 := 6) (st := []) rfl ht0 (by decide) (m_X12_wrongRow (d := (d + 0)) ht0 ew1) mf_X12_wrongRow tw_122 tw_121 ts_X12_wrongRow (Or.inl (by decide +kernel)) dX12_wrongList_3 rfl (by omega) (Nat.le_refl _) (Nat.le_refl _) rfl (Nat.le_of_ble_eq_true rfl) (fun v u hp => ?_)
  obtain ⟨rfl, rfl⟩ := hp
  show ab_T _ _ _ _ 0 0 6 _ (.int _ :: []) _ _
  refine ab_istore_n (pc2 := 7) (lo2 := [some (va_rf _), some (.int _), some (.int _), none]) dX12_wrongList_6 rfl (by decide) rfl ?_
  refine ab_iload_n (pc2 := 8) dX12_wrongList_7 rfl rfl ?_
  refine ab_if_eq (tgt := 13) (pc2 := 11) dX12_wrongList_8 (by decide) rfl hf (fun c2 hf => ?_) (fun c2 hf => ?_)
  · refine ab_aload_n (x := _) (pc2 := 14) dX12_wrongList_13 rfl rfl ?_
    refine ab_getR (pc2 := 17) rfl ht0 fa_X12_25 dX12_wrongList_14 rfl (fun T3 => ?_)
    refine ab_iload_n (pc2 := 18) dX12_wrongList_17 rfl rfl ?_
    obtain ⟨q4, hq4, hf⟩ := ab_bind hf
    obtain ⟨b5, hf⟩ := ab_guard hf
    refine ab_iald (pc2 := 19) hq4 (T3 q4 hq4) (ab_in_vp b5) dX12_wrongList_18 rfl ?_
    refine ab_bipush (pc2 := 21) (v := 8) dX12_wrongList_19 rfl ab_k_bipush_8 ?_
    refine ab_icmp_le (tgt := 27) (pc2 := 24) dX12_wrongList_21 (by decide) rfl hf (fun c6 hf => ?_) (fun c6 hf => ?_)
    · refine ab_iconst (pc2 := 28) (v := 0) dX12_wrongList_27 rfl ab_k_iconst_0 ?_
      refine ab_istore_n (pc2 := 29) (lo2 := [some (va_rf _), some (.int _), some (.int _), some (.int _)]) dX12_wrongList_28 rfl (by decide) rfl ?_
      exact ab_weak (x_X12_wrongList_l29 ht0 _ _ _ _ hf) (ab_leS (ab_leS (ab_leN (ab_leS ab_le0))))
    · refine ab_bipush (pc2 := 26) (v := (-13)) dX12_wrongList_24 rfl ab_k_bipush_m13 ?_
      cases Option.some.inj hf
      exact ab_retI dX12_wrongList_26 (Or.inl rfl) (Nat.le_refl _) (Nat.le_refl _) ⟨rfl, rfl⟩
  · refine ab_iload_n (pc2 := 12) dX12_wrongList_11 rfl rfl ?_
    cases Option.some.inj hf
    exact ab_retI dX12_wrongList_12 (Or.inl rfl) (Nat.le_refl _) (Nat.le_refl _) ⟨rfl, rfl⟩
set_option maxHeartbeats 4000000 in
set_option maxRecDepth 100000 in
theorem m_X12_wrongList {d : Nat} {t0 : Nat} {i1 : Int32} {h : ab_HP} {r : Int32} (ht0 : (ab_shp t0).1 = 5) (hf : f_X12_wrongList t0 i1 h = some r) : ab_MET mX12_wrongList (d + 3) 0 0 [va_rf (some t0), .int i1] h (ab_Pi r h) := ab_met (by decide +kernel) (by decide +kernel) (Nat.le_of_ble_eq_true rfl) rfl (x_X12_wrongList ht0 hf)
set_option maxHeartbeats 4000000 in
set_option maxRecDepth 100000 in
theorem x_X12_begins {d : Nat} {t0 : Nat} {h : ab_HP} {r : ab_HP} (ht0 : (ab_shp t0).1 = 5) (hf : f_X12_begins t0 h = some r) : ab_T mX12_begins (d + 0) 0 0 0 0 0 [some (va_rf (some t0))] [] h (ab_Pv r) := by
  unfold f_X12_begins at hf
  refine ab_aload_n (x := _) (pc2 := 1) dX12_begins_0 rfl rfl ?_
  refine ab_aload_n (x := _) (pc2 := 2) dX12_begins_1 rfl rfl ?_
  refine ab_getR (pc2 := 5) rfl ht0 fa_X12_9 dX12_begins_2 rfl (fun T1 => ?_)
  refine ab_iconst (pc2 := 6) (v := 0) dX12_begins_5 rfl ab_k_iconst_0 ?_
  obtain ⟨q2, hq2, hf⟩ := ab_bind hf
  obtain ⟨b3, hf⟩ := ab_guard hf
  refine ab_iald (pc2 := 7) hq2 (T1 q2 hq2) (ab_in_vp b3) dX12_begins_6 rfl ?_
  have hf := ab_let_e hf
  refine ab_putI (pc2 := 10) rfl ht0 fa_X12_175 (Or.inl rfl) (fun z => by cases z) dX12_begins_7 rfl ?_
  refine ab_aload_n (x := _) (pc2 := 11) dX12_begins_10 rfl rfl ?_
  refine ab_aload_n (x := _) (pc2 := 12) dX12_begins_11 rfl rfl ?_
  refine ab_getR (pc2 := 15) rfl ht0 fa_X12_9 dX12_begins_12 rfl (fun T5 => ?_)
  refine ab_iconst (pc2 := 16) (v := 1) dX12_begins_15 rfl ab_k_iconst_1 ?_
  obtain ⟨q6, hq6, hf⟩ := ab_bind hf
  obtain ⟨b7, hf⟩ := ab_guard hf
  refine ab_iald (pc2 := 17) hq6 (T5 q6 hq6) (ab_in_vp b7) dX12_begins_16 rfl ?_
  have hf := ab_let_e hf
  refine ab_putI (pc2 := 20) rfl ht0 fa_X12_178 (Or.inl rfl) (fun z => by cases z) dX12_begins_17 rfl ?_
  refine ab_aload_n (x := _) (pc2 := 21) dX12_begins_20 rfl rfl ?_
  refine ab_iconst (pc2 := 22) (v := 0) dX12_begins_21 rfl ab_k_iconst_0 ?_
  have hf := ab_let_e hf
  refine ab_putI (pc2 := 25) rfl ht0 fa_X12_181 (Or.inl rfl) (fun z => by cases z) dX12_begins_22 rfl ?_
  refine ab_aload_n (x := _) (pc2 := 26) dX12_begins_25 rfl rfl ?_
  refine ab_iconst (pc2 := 27) (v := 0) dX12_begins_26 rfl ab_k_iconst_0 ?_
  have hf := ab_let_e hf
  refine ab_putI (pc2 := 30) rfl ht0 fa_X12_184 (Or.inl rfl) (fun z => by cases z) dX12_begins_27 rfl ?_
  cases Option.some.inj hf
  exact ab_retV dX12_begins_30 rfl (Nat.le_refl _) (Nat.le_refl _) ⟨rfl, rfl⟩
set_option maxHeartbeats 4000000 in
set_option maxRecDepth 100000 in
theorem m_X12_begins {d : Nat} {t0 : Nat} {h : ab_HP} {r : ab_HP} (ht0 : (ab_shp t0).1 = 5) (hf : f_X12_begins t0 h = some r) : ab_MET mX12_begins (d + 0) 0 0 [va_rf (some t0)] h (ab_Pv r) := ab_met (by decide +kernel) (by decide +kernel) (Nat.le_of_ble_eq_true rfl) rfl (x_X12_begins ht0 hf)
set_option maxHeartbeats 4000000 in
set_option maxRecDepth 100000 in
theorem x_X12_lays_l12 {d : Nat} {t0 : Nat} {r : ab_HP} (ht0 : (ab_shp t0).1 = 5) : ∀ (n : Nat) (i1 : Int32) (i2 : Int32) (i3 : Int32) (h : ab_HP), f_X12_lays_l12 t0 n i1 i2 i3 h = some r → ab_T mX12_lays (d + 1) 0 0 0 0 12 [some (va_rf (some t0)), some (.int i1), some (.int i2), some (.int i3)] [] h (ab_Pv r) := by
  intro n
  induction n with
  | zero =>
    intro i1 i2 i3 h hf
    rw [f_X12_lays_l12] at hf
    cases hf
  | succ n ih =>
    intro i1 i2 i3 h hf
    rw [f_X12_lays_l12] at hf
    refine ab_iload_n (pc2 := 13) dX12_lays_12 rfl rfl ?_
    refine ab_aload_n (x := _) (pc2 := 14) dX12_lays_13 rfl rfl ?_
    refine ab_getI (pc2 := 17) rfl ht0 fa_X12_166 (by decide) dX12_lays_14 rfl ?_
    refine ab_icmp_ge (tgt := 43) (pc2 := 20) dX12_lays_17 (by decide) rfl hf (fun c5 hf => ?_) (fun c5 hf => ?_)
    · refine ab_aload_n (x := _) (pc2 := 44) dX12_lays_43 rfl rfl ?_
      refine ab_iload_n (pc2 := 45) dX12_lays_44 rfl rfl ?_
      have hf := ab_let_e hf
      refine ab_putI (pc2 := 48) rfl ht0 fa_X12_169 (Or.inl rfl) (fun z => by cases z) dX12_lays_45 rfl ?_
      refine ab_aload_n (x := _) (pc2 := 49) dX12_lays_48 rfl rfl ?_
      obtain ⟨w7, ew7, hf⟩ := ab_bind hf
      refine ab_callV (pc2 := 52) (st := []) rfl ht0 (by decide) (m_X12_begins (d := (d + 0)) ht0 ew7) mf_X12_begins tw_206 tw_205 ts_X12_begins (Or.inl (by decide +kernel)) dX12_lays_49 rfl (by omega) (Nat.le_refl _) (Nat.le_refl _) rfl (Nat.le_of_ble_eq_true rfl) (fun v u hp => ?_)
      obtain ⟨rfl, rfl⟩ := hp
      show ab_T _ _ _ _ 0 0 52 _ ([]) _ _
      cases Option.some.inj hf
      exact ab_retV dX12_lays_52 rfl (Nat.le_refl _) (Nat.le_refl _) ⟨rfl, rfl⟩
    · refine ab_aload_n (x := _) (pc2 := 21) dX12_lays_20 rfl rfl ?_
      refine ab_getR (pc2 := 24) rfl ht0 fa_X12_40 dX12_lays_21 rfl (fun T8 => ?_)
      refine ab_iload_n (pc2 := 25) dX12_lays_24 rfl rfl ?_
      refine ab_aload_n (x := _) (pc2 := 26) dX12_lays_25 rfl rfl ?_
      refine ab_getR (pc2 := 29) rfl ht0 fa_X12_28 dX12_lays_26 rfl (fun T9 => ?_)
      refine ab_bipush (pc2 := 31) (v := 100) dX12_lays_29 rfl ab_k_bipush_100 ?_
      refine ab_iload_n (pc2 := 32) dX12_lays_31 rfl rfl ?_
      refine ab_imul (pc2 := 33) dX12_lays_32 rfl ?_
      refine ab_iload_n (pc2 := 34) dX12_lays_33 rfl rfl ?_
      refine ab_iadd (pc2 := 35) dX12_lays_34 rfl ?_
      obtain ⟨q10, hq10, hf⟩ := ab_bind hf
      obtain ⟨b11, hf⟩ := ab_guard hf
      refine ab_iald (pc2 := 36) hq10 (T9 q10 hq10) (ab_in_vp b11) dX12_lays_35 rfl ?_
      obtain ⟨q12, hq12, hf⟩ := ab_bind hf
      obtain ⟨b13, hf⟩ := ab_guard hf
      have hf := ab_let_e hf
      refine ab_iast (pc2 := 37) hq12 (T8 q12 hq12) (ab_in_vp b13) dX12_lays_36 rfl ?_
      refine ab_iinc (pc2 := 40) (v := _ + 1) (lo2 := [some (va_rf _), some (.int _), some (.int _), some (.int _)]) dX12_lays_37 rfl rfl rfl (by decide) rfl ?_
      refine ab_goto (tgt := 12) dX12_lays_40 (by decide) ?_
      exact ab_weak (ih _ _ _ _ hf) (ab_leS (ab_leS (ab_leS (ab_leS ab_le0))))
set_option maxHeartbeats 4000000 in
set_option maxRecDepth 100000 in
theorem x_X12_lays {d : Nat} {t0 : Nat} {i1 : Int32} {i2 : Int32} {h : ab_HP} {r : ab_HP} (ht0 : (ab_shp t0).1 = 5) (hf : f_X12_lays t0 i1 i2 h = some r) : ab_T mX12_lays (d + 1) 0 0 0 0 0 [some (va_rf (some t0)), some (.int i1), some (.int i2), none] [] h (ab_Pv r) := by
  unfold f_X12_lays at hf
  refine ab_aload_n (x := _) (pc2 := 1) dX12_lays_0 rfl rfl ?_
  refine ab_aload_n (x := _) (pc2 := 2) dX12_lays_1 rfl rfl ?_
  refine ab_getR (pc2 := 5) rfl ht0 fa_X12_25 dX12_lays_2 rfl (fun T1 => ?_)
  refine ab_iload_n (pc2 := 6) dX12_lays_5 rfl rfl ?_
  obtain ⟨q2, hq2, hf⟩ := ab_bind hf
  obtain ⟨b3, hf⟩ := ab_guard hf
  refine ab_iald (pc2 := 7) hq2 (T1 q2 hq2) (ab_in_vp b3) dX12_lays_6 rfl ?_
  have hf := ab_let_e hf
  refine ab_putI (pc2 := 10) rfl ht0 fa_X12_166 (Or.inl rfl) (fun z => by cases z) dX12_lays_7 rfl ?_
  refine ab_iconst (pc2 := 11) (v := 0) dX12_lays_10 rfl ab_k_iconst_0 ?_
  refine ab_istore_n (pc2 := 12) (lo2 := [some (va_rf _), some (.int _), some (.int _), some (.int _)]) dX12_lays_11 rfl (by decide) rfl ?_
  exact ab_weak (x_X12_lays_l12 ht0 _ _ _ _ _ hf) (ab_leS (ab_leS (ab_leS (ab_leS ab_le0))))
set_option maxHeartbeats 4000000 in
set_option maxRecDepth 100000 in
theorem m_X12_lays {d : Nat} {t0 : Nat} {i1 : Int32} {i2 : Int32} {h : ab_HP} {r : ab_HP} (ht0 : (ab_shp t0).1 = 5) (hf : f_X12_lays t0 i1 i2 h = some r) : ab_MET mX12_lays (d + 1) 0 0 [va_rf (some t0), .int i1, .int i2] h (ab_Pv r) := ab_met (by decide +kernel) (by decide +kernel) (Nat.le_of_ble_eq_true rfl) rfl (x_X12_lays ht0 hf)
set_option maxHeartbeats 4000000 in
set_option maxRecDepth 100000 in
theorem x_X12_marksBy {d : Nat} {t0 : Nat} {i1 : Int32} {i2 : Int32} {h : ab_HP} {r : Int32} (ht0 : (ab_shp t0).1 = 5) (hf : f_X12_marksBy t0 i1 i2 h = some r) : ab_T mX12_marksBy (d + 1) 0 0 0 0 0 [some (va_rf (some t0)), some (.int i1), some (.int i2), none] [] h (ab_Pi r h) := by
  unfold f_X12_marksBy at hf
  refine ab_iconst (pc2 := 1) (v := 1) dX12_marksBy_0 rfl ab_k_iconst_1 ?_
  refine ab_aload_n (x := _) (pc2 := 2) dX12_marksBy_1 rfl rfl ?_
  refine ab_iload_n (pc2 := 3) dX12_marksBy_2 rfl rfl ?_
  refine ab_iconst (pc2 := 4) (v := 2) dX12_marksBy_3 rfl ab_k_iconst_2 ?_
  obtain ⟨w1, ew1, hf⟩ := ab_bind hf
  refine ab_callV (pc2 := 7) (st := [_]) rfl ht0 (by decide) (m_X12_get (d := (d + 0)) ht0 ew1) mf_X12_get tw_129 tw_128 ts_X12_get (Or.inl (by decide +kernel)) dX12_marksBy_4 rfl (by omega) (Nat.le_refl _) (Nat.le_refl _) rfl (Nat.le_of_ble_eq_true rfl) (fun v u hp => ?_)
  obtain ⟨rfl, rfl⟩ := hp
  show ab_T _ _ _ _ 0 0 7 _ (.int _ :: [_]) _ _
  refine ab_ishl (pc2 := 8) dX12_marksBy_7 rfl ?_
  refine ab_istore_n (pc2 := 9) (lo2 := [some (va_rf _), some (.int _), some (.int _), some (.int _)]) dX12_marksBy_8 rfl (by decide) rfl ?_
  refine ab_aload_n (x := _) (pc2 := 10) dX12_marksBy_9 rfl rfl ?_
  refine ab_iload_n (pc2 := 11) dX12_marksBy_10 rfl rfl ?_
  refine ab_iconst (pc2 := 12) (v := 0) dX12_marksBy_11 rfl ab_k_iconst_0 ?_
  obtain ⟨w2, ew2, hf⟩ := ab_bind hf
  refine ab_callV (pc2 := 15) (st := []) rfl ht0 (by decide) (m_X12_get (d := (d + 0)) ht0 ew2) mf_X12_get tw_129 tw_128 ts_X12_get (Or.inl (by decide +kernel)) dX12_marksBy_12 rfl (by omega) (Nat.le_refl _) (Nat.le_refl _) rfl (Nat.le_of_ble_eq_true rfl) (fun v u hp => ?_)
  obtain ⟨rfl, rfl⟩ := hp
  show ab_T _ _ _ _ 0 0 15 _ (.int _ :: []) _ _
  rcases ab_cas hf with ⟨s3, hf⟩ | ⟨s3, hf⟩
  · refine ab_lswK (tgt := 40) dX12_marksBy_15 s3 (by decide +kernel) (by decide +kernel) (by decide) ?_
    refine ab_iload_n (pc2 := 41) dX12_marksBy_40 rfl rfl ?_
    refine ab_iload_n (pc2 := 42) dX12_marksBy_41 rfl rfl ?_
    refine ab_iconst (pc2 := 43) (v := (-1)) dX12_marksBy_42 rfl ab_k_iconst_m1 ?_
    refine ab_ixor (pc2 := 44) dX12_marksBy_43 rfl ?_
    refine ab_iand (pc2 := 45) dX12_marksBy_44 rfl ?_
    cases Option.some.inj hf
    exact ab_retI dX12_marksBy_45 (Or.inl rfl) (Nat.le_refl _) (Nat.le_refl _) ⟨rfl, rfl⟩
  rcases ab_cas hf with ⟨s4, hf⟩ | ⟨s4, hf⟩
  · refine ab_lswK (tgt := 46) dX12_marksBy_15 s4 (by decide +kernel) (by decide +kernel) (by decide) ?_
    refine ab_iload_n (pc2 := 47) dX12_marksBy_46 rfl rfl ?_
    refine ab_iload_n (pc2 := 48) dX12_marksBy_47 rfl rfl ?_
    refine ab_ior (pc2 := 49) dX12_marksBy_48 rfl ?_
    refine ab_iconst (pc2 := 50) (v := 1) dX12_marksBy_49 rfl ab_k_iconst_1 ?_
    refine ab_aload_n (x := _) (pc2 := 51) dX12_marksBy_50 rfl rfl ?_
    refine ab_iload_n (pc2 := 52) dX12_marksBy_51 rfl rfl ?_
    refine ab_iconst (pc2 := 53) (v := 4) dX12_marksBy_52 rfl ab_k_iconst_4 ?_
    obtain ⟨w5, ew5, hf⟩ := ab_bind hf
    refine ab_callV (pc2 := 56) (st := [_, _]) rfl ht0 (by decide) (m_X12_get (d := (d + 0)) ht0 ew5) mf_X12_get tw_129 tw_128 ts_X12_get (Or.inl (by decide +kernel)) dX12_marksBy_53 rfl (by omega) (Nat.le_refl _) (Nat.le_refl _) rfl (Nat.le_of_ble_eq_true rfl) (fun v u hp => ?_)
    obtain ⟨rfl, rfl⟩ := hp
    show ab_T _ _ _ _ 0 0 56 _ (.int _ :: [_, _]) _ _
    refine ab_ishl (pc2 := 57) dX12_marksBy_56 rfl ?_
    refine ab_ior (pc2 := 58) dX12_marksBy_57 rfl ?_
    cases Option.some.inj hf
    exact ab_retI dX12_marksBy_58 (Or.inl rfl) (Nat.le_refl _) (Nat.le_refl _) ⟨rfl, rfl⟩
  refine ab_lsw (tgt := 59) (off := 44) dX12_marksBy_15 (by decide +kernel) (by show Op.lookupswitch.offset [(6, 25), (7, 31)] _ _ = _; rw [lv_osw s3 (by decide), lv_osw s4 (by decide)]; rfl) (by decide) ?_
  refine ab_iload_n (pc2 := 60) dX12_marksBy_59 rfl rfl ?_
  refine ab_iload_n (pc2 := 61) dX12_marksBy_60 rfl rfl ?_
  refine ab_ior (pc2 := 62) dX12_marksBy_61 rfl ?_
  cases Option.some.inj hf
  exact ab_retI dX12_marksBy_62 (Or.inl rfl) (Nat.le_refl _) (Nat.le_refl _) ⟨rfl, rfl⟩
set_option maxHeartbeats 4000000 in
set_option maxRecDepth 100000 in
theorem m_X12_marksBy {d : Nat} {t0 : Nat} {i1 : Int32} {i2 : Int32} {h : ab_HP} {r : Int32} (ht0 : (ab_shp t0).1 = 5) (hf : f_X12_marksBy t0 i1 i2 h = some r) : ab_MET mX12_marksBy (d + 1) 0 0 [va_rf (some t0), .int i1, .int i2] h (ab_Pi r h) := ab_met (by decide +kernel) (by decide +kernel) (Nat.le_of_ble_eq_true rfl) rfl (x_X12_marksBy ht0 hf)
set_option maxHeartbeats 4000000 in
set_option maxRecDepth 100000 in
theorem x_X12_priceOf {d : Nat} {t0 : Nat} {i1 : Int32} {h : ab_HP} {r : Int32} (ht0 : (ab_shp t0).1 = 5) (hf : f_X12_priceOf t0 i1 h = some r) : ab_T mX12_priceOf (d + 0) 0 0 0 0 0 [some (va_rf (some t0)), some (.int i1), none] [] h (ab_Pi r h) := by
  unfold f_X12_priceOf at hf
  refine ab_aload_n (x := _) (pc2 := 1) dX12_priceOf_0 rfl rfl ?_
  refine ab_getR (pc2 := 4) rfl ht0 fa_X12_9 dX12_priceOf_1 rfl (fun T1 => ?_)
  refine ab_iconst (pc2 := 5) (v := 4) dX12_priceOf_4 rfl ab_k_iconst_4 ?_
  obtain ⟨q2, hq2, hf⟩ := ab_bind hf
  obtain ⟨b3, hf⟩ := ab_guard hf
  refine ab_iald (pc2 := 6) hq2 (T1 q2 hq2) (ab_in_vp b3) dX12_priceOf_5 rfl ?_
  refine ab_iload_n (pc2 := 7) dX12_priceOf_6 rfl rfl ?_
  refine ab_aload_n (x := _) (pc2 := 8) dX12_priceOf_7 rfl rfl ?_
  refine ab_getR (pc2 := 11) rfl ht0 fa_X12_9 dX12_priceOf_8 rfl (fun T4 => ?_)
  refine ab_iconst (pc2 := 12) (v := 5) dX12_priceOf_11 rfl ab_k_iconst_5 ?_
  obtain ⟨q5, hq5, hf⟩ := ab_bind hf
  obtain ⟨b6, hf⟩ := ab_guard hf
  refine ab_iald (pc2 := 13) hq5 (T4 q5 hq5) (ab_in_vp b6) dX12_priceOf_12 rfl ?_
  refine ab_imul (pc2 := 14) dX12_priceOf_13 rfl ?_
  refine ab_iadd (pc2 := 15) dX12_priceOf_14 rfl ?_
  have hf := ab_let_e hf
  refine ab_istore_n (pc2 := 16) (lo2 := [some (va_rf _), some (.int _), some (.int _)]) dX12_priceOf_15 rfl (by decide) rfl ?_
  refine ab_iload_n (pc2 := 17) dX12_priceOf_16 rfl rfl ?_
  refine ab_if_ge (tgt := 24) (pc2 := 20) dX12_priceOf_17 (by decide) rfl hf (fun c8 hf => ?_) (fun c8 hf => ?_)
  · refine ab_iload_n (pc2 := 25) dX12_priceOf_24 rfl rfl ?_
    cases Option.some.inj hf
    exact ab_retI dX12_priceOf_25 (Or.inl rfl) (Nat.le_refl _) (Nat.le_refl _) ⟨rfl, rfl⟩
  · refine ab_iconst (pc2 := 21) (v := 0) dX12_priceOf_20 rfl ab_k_iconst_0 ?_
    refine ab_goto (tgt := 25) dX12_priceOf_21 (by decide) ?_
    cases Option.some.inj hf
    exact ab_retI dX12_priceOf_25 (Or.inl rfl) (Nat.le_refl _) (Nat.le_refl _) ⟨rfl, rfl⟩
set_option maxHeartbeats 4000000 in
set_option maxRecDepth 100000 in
theorem m_X12_priceOf {d : Nat} {t0 : Nat} {i1 : Int32} {h : ab_HP} {r : Int32} (ht0 : (ab_shp t0).1 = 5) (hf : f_X12_priceOf t0 i1 h = some r) : ab_MET mX12_priceOf (d + 0) 0 0 [va_rf (some t0), .int i1] h (ab_Pi r h) := ab_met (by decide +kernel) (by decide +kernel) (Nat.le_of_ble_eq_true rfl) rfl (x_X12_priceOf ht0 hf)
set_option maxHeartbeats 4000000 in
set_option maxRecDepth 100000 in
theorem x_X12_evenYear_b183 {d : Nat} {k2 : Int32 → ab_HP → Option ab_HP} {t0 : Nat} {i1 : Int32} {h : ab_HP} {r : ab_HP} (ht0 : (ab_shp t0).1 = 5) (hk2 : ∀ (i1 : Int32) (h : ab_HP), k2 i1 h = some r → ab_T mX12_evenYear (d + 3) 0 0 0 0 2 [some (va_rf (some t0)), some (.int i1), none, none] [] h (ab_Pv r)) (hf : f_X12_evenYear_b183 k2 t0 i1 h = some r) : ab_T mX12_evenYear (d + 3) 0 0 0 0 183 [some (va_rf (some t0)), some (.int i1), none, none] [] h (ab_Pv r) := by
  unfold f_X12_evenYear_b183 at hf
  refine ab_aload_n (x := _) (pc2 := 184) dX12_evenYear_183 rfl rfl ?_
  refine ab_getR (pc2 := 187) rfl ht0 fa_X12_52 dX12_evenYear_184 rfl (fun T63 => ?_)
  refine ab_iload_n (pc2 := 188) dX12_evenYear_187 rfl rfl ?_
  refine ab_aload_n (x := _) (pc2 := 189) dX12_evenYear_188 rfl rfl ?_
  refine ab_getI (pc2 := 192) rfl ht0 fa_X12_175 (by decide) dX12_evenYear_189 rfl ?_
  obtain ⟨q64, hq64, hf⟩ := ab_bind hf
  obtain ⟨b65, hf⟩ := ab_guard hf
  have hf := ab_let_e hf
  refine ab_iast (pc2 := 193) hq64 (T63 q64 hq64) (ab_in_vp b65) dX12_evenYear_192 rfl ?_
  refine ab_iinc (pc2 := 196) (v := _ + 1) (lo2 := [some (va_rf _), some (.int _), none, none]) dX12_evenYear_193 rfl rfl rfl (by decide) rfl ?_
  refine ab_goto (tgt := 2) dX12_evenYear_196 (by decide) ?_
  exact ab_weak (hk2 _ _ hf) (ab_leS (ab_leS (ab_leN (ab_leN ab_le0))))
set_option maxHeartbeats 4000000 in
set_option maxRecDepth 100000 in
theorem x_X12_evenYear_l2 {d : Nat} {t0 : Nat} {r : ab_HP} (ht0 : (ab_shp t0).1 = 5) : ∀ (n : Nat) (i1 : Int32) (h : ab_HP), f_X12_evenYear_l2 t0 n i1 h = some r → ab_T mX12_evenYear (d + 3) 0 0 0 0 2 [some (va_rf (some t0)), some (.int i1), none, none] [] h (ab_Pv r) := by
  intro n
  induction n with
  | zero =>
    intro i1 h hf
    rw [f_X12_evenYear_l2] at hf
    cases hf
  | succ n ih =>
    intro i1 h hf
    rw [f_X12_evenYear_l2] at hf
    refine ab_iload_n (pc2 := 3) dX12_evenYear_2 rfl rfl ?_
    refine ab_aload_n (x := _) (pc2 := 4) dX12_evenYear_3 rfl rfl ?_
    refine ab_getI (pc2 := 7) rfl ht0 fa_X12_166 (by decide) dX12_evenYear_4 rfl ?_
    refine ab_icmp_ge (tgt := 199) (pc2 := 10) dX12_evenYear_7 (by decide) rfl hf (fun c1 hf => ?_) (fun c1 hf => ?_)
    · cases Option.some.inj hf
      exact ab_retV dX12_evenYear_199 rfl (Nat.le_refl _) (Nat.le_refl _) ⟨rfl, rfl⟩
    · refine ab_aload_n (x := _) (pc2 := 11) dX12_evenYear_10 rfl rfl ?_
      refine ab_getR (pc2 := 14) rfl ht0 fa_X12_40 dX12_evenYear_11 rfl (fun T2 => ?_)
      refine ab_iload_n (pc2 := 15) dX12_evenYear_14 rfl rfl ?_
      obtain ⟨q3, hq3, hf⟩ := ab_bind hf
      obtain ⟨b4, hf⟩ := ab_guard hf
      refine ab_iald (pc2 := 16) hq3 (T2 q3 hq3) (ab_in_vp b4) dX12_evenYear_15 rfl ?_
      refine ab_istore_n (pc2 := 17) (lo2 := [some (va_rf _), some (.int _), some (.int _), none]) dX12_evenYear_16 rfl (by decide) rfl ?_
      refine ab_aload_n (x := _) (pc2 := 18) dX12_evenYear_17 rfl rfl ?_
      refine ab_getR (pc2 := 21) rfl ht0 fa_X12_49 dX12_evenYear_18 rfl (fun T5 => ?_)
      refine ab_iload_n (pc2 := 22) dX12_evenYear_21 rfl rfl ?_
      refine ab_iconst (pc2 := 23) (v := 0) dX12_evenYear_22 rfl ab_k_iconst_0 ?_
      obtain ⟨q6, hq6, hf⟩ := ab_bind hf
      obtain ⟨b7, hf⟩ := ab_guard hf
      have hf := ab_let_e hf
      refine ab_iast (pc2 := 24) hq6 (T5 q6 hq6) (ab_in_vp b7) dX12_evenYear_23 rfl ?_
      refine ab_aload_n (x := _) (pc2 := 25) dX12_evenYear_24 rfl rfl ?_
      refine ab_getR (pc2 := 28) rfl ht0 fa_X12_43 dX12_evenYear_25 rfl (fun T9 => ?_)
      refine ab_iload_n (pc2 := 29) dX12_evenYear_28 rfl rfl ?_
      refine ab_iconst (pc2 := 30) (v := 0) dX12_evenYear_29 rfl ab_k_iconst_0 ?_
      obtain ⟨q10, hq10, hf⟩ := ab_bind hf
      obtain ⟨b11, hf⟩ := ab_guard hf
      have hf := ab_let_e hf
      refine ab_iast (pc2 := 31) hq10 (T9 q10 hq10) (ab_in_vp b11) dX12_evenYear_30 rfl ?_
      refine ab_aload_n (x := _) (pc2 := 32) dX12_evenYear_31 rfl rfl ?_
      refine ab_iload_n (pc2 := 33) dX12_evenYear_32 rfl rfl ?_
      refine ab_aload_n (x := _) (pc2 := 34) dX12_evenYear_33 rfl rfl ?_
      refine ab_getI (pc2 := 37) rfl ht0 fa_X12_175 (by decide) dX12_evenYear_34 rfl ?_
      refine ab_aload_n (x := _) (pc2 := 38) dX12_evenYear_37 rfl rfl ?_
      refine ab_getI (pc2 := 41) rfl ht0 fa_X12_178 (by decide) dX12_evenYear_38 rfl ?_
      obtain ⟨w13, ew13, hf⟩ := ab_bind hf
      refine ab_callV (pc2 := 44) (st := []) rfl ht0 (by decide) (m_X12_mayBy (d := (d + 0)) ht0 ew13) mf_X12_mayBy tw_153 tw_152 ts_X12_mayBy (Or.inl (by decide +kernel)) dX12_evenYear_41 rfl (by omega) (Nat.le_refl _) (Nat.le_refl _) rfl (Nat.le_of_ble_eq_true rfl) (fun v u hp => ?_)
      obtain ⟨rfl, rfl, z14⟩ := hp
      show ab_T _ _ _ _ 0 0 44 _ (.int _ :: []) _ _
      refine ab_if_eq (tgt := 183) (pc2 := 47) dX12_evenYear_44 (by decide) rfl hf (fun c15 hf => ?_) (fun c15 hf => ?_)
      · exact ab_weak (x_X12_evenYear_b183 ht0 ih hf) (ab_leS (ab_leS (ab_leN (ab_leN ab_le0))))
      · refine ab_aload_n (x := _) (pc2 := 48) dX12_evenYear_47 rfl rfl ?_
        refine ab_iload_n (pc2 := 49) dX12_evenYear_48 rfl rfl ?_
        refine ab_aload_n (x := _) (pc2 := 50) dX12_evenYear_49 rfl rfl ?_
        refine ab_getI (pc2 := 53) rfl ht0 fa_X12_175 (by decide) dX12_evenYear_50 rfl ?_
        obtain ⟨w16, ew16, hf⟩ := ab_bind hf
        refine ab_callV (pc2 := 56) (st := []) rfl ht0 (by decide) (m_X12_marksBy (d := (d + 1)) ht0 ew16) mf_X12_marksBy tw_208 tw_207 ts_X12_marksBy (Or.inl (by decide +kernel)) dX12_evenYear_53 rfl (by omega) (Nat.le_refl _) (Nat.le_refl _) rfl (Nat.le_of_ble_eq_true rfl) (fun v u hp => ?_)
        obtain ⟨rfl, rfl⟩ := hp
        show ab_T _ _ _ _ 0 0 56 _ (.int _ :: []) _ _
        refine ab_istore_n (pc2 := 57) (lo2 := [some (va_rf _), some (.int _), some (.int _), some (.int _)]) dX12_evenYear_56 rfl (by decide) rfl ?_
        refine ab_aload_n (x := _) (pc2 := 58) dX12_evenYear_57 rfl rfl ?_
        refine ab_getR (pc2 := 61) rfl ht0 fa_X12_43 dX12_evenYear_58 rfl (fun T17 => ?_)
        refine ab_iload_n (pc2 := 62) dX12_evenYear_61 rfl rfl ?_
        refine ab_iload_n (pc2 := 63) dX12_evenYear_62 rfl rfl ?_
        refine ab_aload_n (x := _) (pc2 := 64) dX12_evenYear_63 rfl rfl ?_
        refine ab_getI (pc2 := 67) rfl ht0 fa_X12_175 (by decide) dX12_evenYear_64 rfl ?_
        refine ab_ixor (pc2 := 68) dX12_evenYear_67 rfl ?_
        obtain ⟨q18, hq18, hf⟩ := ab_bind hf
        obtain ⟨b19, hf⟩ := ab_guard hf
        have hf := ab_let_e hf
        refine ab_iast (pc2 := 69) hq18 (T17 q18 hq18) (ab_in_vp b19) dX12_evenYear_68 rfl ?_
        refine ab_aload_n (x := _) (pc2 := 70) dX12_evenYear_69 rfl rfl ?_
        refine ab_getR (pc2 := 73) rfl ht0 fa_X12_46 dX12_evenYear_70 rfl (fun T21 => ?_)
        refine ab_iload_n (pc2 := 74) dX12_evenYear_73 rfl rfl ?_
        refine ab_aload_n (x := _) (pc2 := 75) dX12_evenYear_74 rfl rfl ?_
        refine ab_getI (pc2 := 78) rfl ht0 fa_X12_175 (by decide) dX12_evenYear_75 rfl ?_
        refine ab_aload_n (x := _) (pc2 := 79) dX12_evenYear_78 rfl rfl ?_
        refine ab_getR (pc2 := 82) rfl ht0 fa_X12_43 dX12_evenYear_79 rfl (fun T22 => ?_)
        refine ab_iload_n (pc2 := 83) dX12_evenYear_82 rfl rfl ?_
        obtain ⟨q23, hq23, hf⟩ := ab_bind hf
        obtain ⟨b24, hf⟩ := ab_guard hf
        refine ab_iald (pc2 := 84) hq23 (T22 q23 hq23) (ab_in_vp b24) dX12_evenYear_83 rfl ?_
        refine ab_iand (pc2 := 85) dX12_evenYear_84 rfl ?_
        obtain ⟨q25, hq25, hf⟩ := ab_bind hf
        obtain ⟨b26, hf⟩ := ab_guard hf
        have hf := ab_let_e hf
        refine ab_iast (pc2 := 86) hq25 (T21 q25 hq25) (ab_in_vp b26) dX12_evenYear_85 rfl ?_
        refine ab_aload_n (x := _) (pc2 := 87) dX12_evenYear_86 rfl rfl ?_
        refine ab_iload_n (pc2 := 88) dX12_evenYear_87 rfl rfl ?_
        have hf := ab_let_e hf
        refine ab_putI (pc2 := 91) rfl ht0 fa_X12_175 (Or.inl rfl) (fun z => by cases z) dX12_evenYear_88 rfl ?_
        refine ab_aload_n (x := _) (pc2 := 92) dX12_evenYear_91 rfl rfl ?_
        refine ab_dup (pc2 := 93) dX12_evenYear_92 rfl (ab_rf1 _) ?_
        refine ab_getI (pc2 := 96) rfl ht0 fa_X12_178 (by decide) dX12_evenYear_93 rfl ?_
        refine ab_aload_n (x := _) (pc2 := 97) dX12_evenYear_96 rfl rfl ?_
        refine ab_iload_n (pc2 := 98) dX12_evenYear_97 rfl rfl ?_
        obtain ⟨w29, ew29, hf⟩ := ab_bind hf
        refine ab_callV (pc2 := 101) (st := [_, _]) rfl ht0 (by decide) (m_X12_costOf (d := (d + 1)) ht0 ew29) mf_X12_costOf tw_131 tw_130 ts_X12_costOf (Or.inl (by decide +kernel)) dX12_evenYear_98 rfl (by omega) (Nat.le_refl _) (Nat.le_refl _) rfl (Nat.le_of_ble_eq_true rfl) (fun v u hp => ?_)
        obtain ⟨rfl, rfl⟩ := hp
        show ab_T _ _ _ _ 0 0 101 _ (.int _ :: [_, _]) _ _
        refine ab_isub (pc2 := 102) dX12_evenYear_101 rfl ?_
        have hf := ab_let_e hf
        refine ab_putI (pc2 := 105) rfl ht0 fa_X12_178 (Or.inl rfl) (fun z => by cases z) dX12_evenYear_102 rfl ?_
        refine ab_aload_n (x := _) (pc2 := 106) dX12_evenYear_105 rfl rfl ?_
        refine ab_getR (pc2 := 109) rfl ht0 fa_X12_49 dX12_evenYear_106 rfl (fun T31 => ?_)
        refine ab_iload_n (pc2 := 110) dX12_evenYear_109 rfl rfl ?_
        refine ab_aload_n (x := _) (pc2 := 111) dX12_evenYear_110 rfl rfl ?_
        refine ab_iload_n (pc2 := 112) dX12_evenYear_111 rfl rfl ?_
        obtain ⟨w32, ew32, hf⟩ := ab_bind hf
        refine ab_callV (pc2 := 115) (st := [_, _]) rfl ht0 (by decide) (m_X12_isKept (d := (d + 1)) ht0 ew32) mf_X12_isKept tw_136 tw_135 ts_X12_isKept (Or.inl (by decide +kernel)) dX12_evenYear_112 rfl (by omega) (Nat.le_refl _) (Nat.le_refl _) rfl (Nat.le_of_ble_eq_true rfl) (fun v u hp => ?_)
        obtain ⟨rfl, rfl, z33⟩ := hp
        show ab_T _ _ _ _ 0 0 115 _ (.int _ :: [_, _]) _ _
        refine ab_if_eq (tgt := 122) (pc2 := 118) dX12_evenYear_115 (by decide) rfl hf (fun c34 hf => ?_) (fun c34 hf => ?_)
        · refine ab_iconst (pc2 := 123) (v := 1) dX12_evenYear_122 rfl ab_k_iconst_1 ?_
          obtain ⟨q35, hq35, hf⟩ := ab_bind hf
          obtain ⟨b36, hf⟩ := ab_guard hf
          have hf := ab_let_e hf
          refine ab_iast (pc2 := 124) hq35 (T31 q35 hq35) (ab_in_vp b36) dX12_evenYear_123 rfl ?_
          refine ab_aload_n (x := _) (pc2 := 125) dX12_evenYear_124 rfl rfl ?_
          refine ab_getI (pc2 := 128) rfl ht0 fa_X12_169 (by decide) dX12_evenYear_125 rfl ?_
          refine ab_iload_n (pc2 := 129) dX12_evenYear_128 rfl rfl ?_
          refine ab_ishr (pc2 := 130) dX12_evenYear_129 rfl ?_
          refine ab_iconst (pc2 := 131) (v := 1) dX12_evenYear_130 rfl ab_k_iconst_1 ?_
          refine ab_iand (pc2 := 132) dX12_evenYear_131 rfl ?_
          refine ab_iconst (pc2 := 133) (v := 1) dX12_evenYear_132 rfl ab_k_iconst_1 ?_
          refine ab_icmp_ne (tgt := 183) (pc2 := 136) dX12_evenYear_133 (by decide) rfl hf (fun c38 hf => ?_) (fun c38 hf => ?_)
          · exact ab_weak (x_X12_evenYear_b183 ht0 ih hf) (ab_leS (ab_leS (ab_leN (ab_leN ab_le0))))
          · refine ab_aload_n (x := _) (pc2 := 137) dX12_evenYear_136 rfl rfl ?_
            refine ab_getI (pc2 := 140) rfl ht0 fa_X12_178 (by decide) dX12_evenYear_137 rfl ?_
            refine ab_aload_n (x := _) (pc2 := 141) dX12_evenYear_140 rfl rfl ?_
            refine ab_iload_n (pc2 := 142) dX12_evenYear_141 rfl rfl ?_
            obtain ⟨w39, ew39, hf⟩ := ab_bind hf
            refine ab_callV (pc2 := 145) (st := [_]) rfl ht0 (by decide) (m_X12_priceOf (d := (d + 2)) ht0 ew39) mf_X12_priceOf tw_210 tw_209 ts_X12_priceOf (Or.inl (by decide +kernel)) dX12_evenYear_142 rfl (by omega) (Nat.le_refl _) (Nat.le_refl _) rfl (Nat.le_of_ble_eq_true rfl) (fun v u hp => ?_)
            obtain ⟨rfl, rfl⟩ := hp
            show ab_T _ _ _ _ 0 0 145 _ (.int _ :: [_]) _ _
            refine ab_icmp_lt (tgt := 183) (pc2 := 148) dX12_evenYear_145 (by decide) rfl hf (fun c40 hf => ?_) (fun c40 hf => ?_)
            · exact ab_weak (x_X12_evenYear_b183 ht0 ih hf) (ab_leS (ab_leS (ab_leN (ab_leN ab_le0))))
            · refine ab_aload_n (x := _) (pc2 := 149) dX12_evenYear_148 rfl rfl ?_
              refine ab_dup (pc2 := 150) dX12_evenYear_149 rfl (ab_rf1 _) ?_
              refine ab_getI (pc2 := 153) rfl ht0 fa_X12_178 (by decide) dX12_evenYear_150 rfl ?_
              refine ab_aload_n (x := _) (pc2 := 154) dX12_evenYear_153 rfl rfl ?_
              refine ab_iload_n (pc2 := 155) dX12_evenYear_154 rfl rfl ?_
              obtain ⟨w41, ew41, hf⟩ := ab_bind hf
              refine ab_callV (pc2 := 158) (st := [_, _]) rfl ht0 (by decide) (m_X12_priceOf (d := (d + 2)) ht0 ew41) mf_X12_priceOf tw_210 tw_209 ts_X12_priceOf (Or.inl (by decide +kernel)) dX12_evenYear_155 rfl (by omega) (Nat.le_refl _) (Nat.le_refl _) rfl (Nat.le_of_ble_eq_true rfl) (fun v u hp => ?_)
              obtain ⟨rfl, rfl⟩ := hp
              show ab_T _ _ _ _ 0 0 158 _ (.int _ :: [_, _]) _ _
              refine ab_isub (pc2 := 159) dX12_evenYear_158 rfl ?_
              have hf := ab_let_e hf
              refine ab_putI (pc2 := 162) rfl ht0 fa_X12_178 (Or.inl rfl) (fun z => by cases z) dX12_evenYear_159 rfl ?_
              refine ab_aload_n (x := _) (pc2 := 163) dX12_evenYear_162 rfl rfl ?_
              refine ab_dup (pc2 := 164) dX12_evenYear_163 rfl (ab_rf1 _) ?_
              refine ab_getI (pc2 := 167) rfl ht0 fa_X12_181 (by decide) dX12_evenYear_164 rfl ?_
              refine ab_aload_n (x := _) (pc2 := 168) dX12_evenYear_167 rfl rfl ?_
              refine ab_iload_n (pc2 := 169) dX12_evenYear_168 rfl rfl ?_
              obtain ⟨w43, ew43, hf⟩ := ab_bind hf
              refine ab_callV (pc2 := 172) (st := [_, _]) rfl ht0 (by decide) (m_X12_priceOf (d := (d + 2)) ht0 ew43) mf_X12_priceOf tw_210 tw_209 ts_X12_priceOf (Or.inl (by decide +kernel)) dX12_evenYear_169 rfl (by omega) (Nat.le_refl _) (Nat.le_refl _) rfl (Nat.le_of_ble_eq_true rfl) (fun v u hp => ?_)
              obtain ⟨rfl, rfl⟩ := hp
              show ab_T _ _ _ _ 0 0 172 _ (.int _ :: [_, _]) _ _
              refine ab_iadd (pc2 := 173) dX12_evenYear_172 rfl ?_
              have hf := ab_let_e hf
              refine ab_putI (pc2 := 176) rfl ht0 fa_X12_181 (Or.inl rfl) (fun z => by cases z) dX12_evenYear_173 rfl ?_
              refine ab_aload_n (x := _) (pc2 := 177) dX12_evenYear_176 rfl rfl ?_
              refine ab_getR (pc2 := 180) rfl ht0 fa_X12_49 dX12_evenYear_177 rfl (fun T45 => ?_)
              refine ab_iload_n (pc2 := 181) dX12_evenYear_180 rfl rfl ?_
              refine ab_iconst (pc2 := 182) (v := 2) dX12_evenYear_181 rfl ab_k_iconst_2 ?_
              obtain ⟨q46, hq46, hf⟩ := ab_bind hf
              obtain ⟨b47, hf⟩ := ab_guard hf
              have hf := ab_let_e hf
              refine ab_iast (pc2 := 183) hq46 (T45 q46 hq46) (ab_in_vp b47) dX12_evenYear_182 rfl ?_
              exact ab_weak (x_X12_evenYear_b183 ht0 ih hf) (ab_leS (ab_leS (ab_leN (ab_leN ab_le0))))
        · refine ab_iconst (pc2 := 119) (v := 3) dX12_evenYear_118 rfl ab_k_iconst_3 ?_
          refine ab_goto (tgt := 123) dX12_evenYear_119 (by decide) ?_
          obtain ⟨q49, hq49, hf⟩ := ab_bind hf
          obtain ⟨b50, hf⟩ := ab_guard hf
          have hf := ab_let_e hf
          refine ab_iast (pc2 := 124) hq49 (T31 q49 hq49) (ab_in_vp b50) dX12_evenYear_123 rfl ?_
          refine ab_aload_n (x := _) (pc2 := 125) dX12_evenYear_124 rfl rfl ?_
          refine ab_getI (pc2 := 128) rfl ht0 fa_X12_169 (by decide) dX12_evenYear_125 rfl ?_
          refine ab_iload_n (pc2 := 129) dX12_evenYear_128 rfl rfl ?_
          refine ab_ishr (pc2 := 130) dX12_evenYear_129 rfl ?_
          refine ab_iconst (pc2 := 131) (v := 1) dX12_evenYear_130 rfl ab_k_iconst_1 ?_
          refine ab_iand (pc2 := 132) dX12_evenYear_131 rfl ?_
          refine ab_iconst (pc2 := 133) (v := 1) dX12_evenYear_132 rfl ab_k_iconst_1 ?_
          refine ab_icmp_ne (tgt := 183) (pc2 := 136) dX12_evenYear_133 (by decide) rfl hf (fun c52 hf => ?_) (fun c52 hf => ?_)
          · exact ab_weak (x_X12_evenYear_b183 ht0 ih hf) (ab_leS (ab_leS (ab_leN (ab_leN ab_le0))))
          · refine ab_aload_n (x := _) (pc2 := 137) dX12_evenYear_136 rfl rfl ?_
            refine ab_getI (pc2 := 140) rfl ht0 fa_X12_178 (by decide) dX12_evenYear_137 rfl ?_
            refine ab_aload_n (x := _) (pc2 := 141) dX12_evenYear_140 rfl rfl ?_
            refine ab_iload_n (pc2 := 142) dX12_evenYear_141 rfl rfl ?_
            obtain ⟨w53, ew53, hf⟩ := ab_bind hf
            refine ab_callV (pc2 := 145) (st := [_]) rfl ht0 (by decide) (m_X12_priceOf (d := (d + 2)) ht0 ew53) mf_X12_priceOf tw_210 tw_209 ts_X12_priceOf (Or.inl (by decide +kernel)) dX12_evenYear_142 rfl (by omega) (Nat.le_refl _) (Nat.le_refl _) rfl (Nat.le_of_ble_eq_true rfl) (fun v u hp => ?_)
            obtain ⟨rfl, rfl⟩ := hp
            show ab_T _ _ _ _ 0 0 145 _ (.int _ :: [_]) _ _
            refine ab_icmp_lt (tgt := 183) (pc2 := 148) dX12_evenYear_145 (by decide) rfl hf (fun c54 hf => ?_) (fun c54 hf => ?_)
            · exact ab_weak (x_X12_evenYear_b183 ht0 ih hf) (ab_leS (ab_leS (ab_leN (ab_leN ab_le0))))
            · refine ab_aload_n (x := _) (pc2 := 149) dX12_evenYear_148 rfl rfl ?_
              refine ab_dup (pc2 := 150) dX12_evenYear_149 rfl (ab_rf1 _) ?_
              refine ab_getI (pc2 := 153) rfl ht0 fa_X12_178 (by decide) dX12_evenYear_150 rfl ?_
              refine ab_aload_n (x := _) (pc2 := 154) dX12_evenYear_153 rfl rfl ?_
              refine ab_iload_n (pc2 := 155) dX12_evenYear_154 rfl rfl ?_
              obtain ⟨w55, ew55, hf⟩ := ab_bind hf
              refine ab_callV (pc2 := 158) (st := [_, _]) rfl ht0 (by decide) (m_X12_priceOf (d := (d + 2)) ht0 ew55) mf_X12_priceOf tw_210 tw_209 ts_X12_priceOf (Or.inl (by decide +kernel)) dX12_evenYear_155 rfl (by omega) (Nat.le_refl _) (Nat.le_refl _) rfl (Nat.le_of_ble_eq_true rfl) (fun v u hp => ?_)
              obtain ⟨rfl, rfl⟩ := hp
              show ab_T _ _ _ _ 0 0 158 _ (.int _ :: [_, _]) _ _
              refine ab_isub (pc2 := 159) dX12_evenYear_158 rfl ?_
              have hf := ab_let_e hf
              refine ab_putI (pc2 := 162) rfl ht0 fa_X12_178 (Or.inl rfl) (fun z => by cases z) dX12_evenYear_159 rfl ?_
              refine ab_aload_n (x := _) (pc2 := 163) dX12_evenYear_162 rfl rfl ?_
              refine ab_dup (pc2 := 164) dX12_evenYear_163 rfl (ab_rf1 _) ?_
              refine ab_getI (pc2 := 167) rfl ht0 fa_X12_181 (by decide) dX12_evenYear_164 rfl ?_
              refine ab_aload_n (x := _) (pc2 := 168) dX12_evenYear_167 rfl rfl ?_
              refine ab_iload_n (pc2 := 169) dX12_evenYear_168 rfl rfl ?_
              obtain ⟨w57, ew57, hf⟩ := ab_bind hf
              refine ab_callV (pc2 := 172) (st := [_, _]) rfl ht0 (by decide) (m_X12_priceOf (d := (d + 2)) ht0 ew57) mf_X12_priceOf tw_210 tw_209 ts_X12_priceOf (Or.inl (by decide +kernel)) dX12_evenYear_169 rfl (by omega) (Nat.le_refl _) (Nat.le_refl _) rfl (Nat.le_of_ble_eq_true rfl) (fun v u hp => ?_)
              obtain ⟨rfl, rfl⟩ := hp
              show ab_T _ _ _ _ 0 0 172 _ (.int _ :: [_, _]) _ _
              refine ab_iadd (pc2 := 173) dX12_evenYear_172 rfl ?_
              have hf := ab_let_e hf
              refine ab_putI (pc2 := 176) rfl ht0 fa_X12_181 (Or.inl rfl) (fun z => by cases z) dX12_evenYear_173 rfl ?_
              refine ab_aload_n (x := _) (pc2 := 177) dX12_evenYear_176 rfl rfl ?_
              refine ab_getR (pc2 := 180) rfl ht0 fa_X12_49 dX12_evenYear_177 rfl (fun T59 => ?_)
              refine ab_iload_n (pc2 := 181) dX12_evenYear_180 rfl rfl ?_
              refine ab_iconst (pc2 := 182) (v := 2) dX12_evenYear_181 rfl ab_k_iconst_2 ?_
              obtain ⟨q60, hq60, hf⟩ := ab_bind hf
              obtain ⟨b61, hf⟩ := ab_guard hf
              have hf := ab_let_e hf
              refine ab_iast (pc2 := 183) hq60 (T59 q60 hq60) (ab_in_vp b61) dX12_evenYear_182 rfl ?_
              exact ab_weak (x_X12_evenYear_b183 ht0 ih hf) (ab_leS (ab_leS (ab_leN (ab_leN ab_le0))))
set_option maxHeartbeats 4000000 in
set_option maxRecDepth 100000 in
theorem x_X12_evenYear {d : Nat} {t0 : Nat} {h : ab_HP} {r : ab_HP} (ht0 : (ab_shp t0).1 = 5) (hf : f_X12_evenYear t0 h = some r) : ab_T mX12_evenYear (d + 3) 0 0 0 0 0 [some (va_rf (some t0)), none, none, none] [] h (ab_Pv r) := by
  unfold f_X12_evenYear at hf
  refine ab_iconst (pc2 := 1) (v := 0) dX12_evenYear_0 rfl ab_k_iconst_0 ?_
  refine ab_istore_n (pc2 := 2) (lo2 := [some (va_rf _), some (.int _), none, none]) dX12_evenYear_1 rfl (by decide) rfl ?_
  exact ab_weak (x_X12_evenYear_l2 ht0 _ _ _ hf) (ab_leS (ab_leS (ab_leN (ab_leN ab_le0))))
set_option maxHeartbeats 4000000 in
set_option maxRecDepth 100000 in
theorem m_X12_evenYear {d : Nat} {t0 : Nat} {h : ab_HP} {r : ab_HP} (ht0 : (ab_shp t0).1 = 5) (hf : f_X12_evenYear t0 h = some r) : ab_MET mX12_evenYear (d + 3) 0 0 [va_rf (some t0)] h (ab_Pv r) := ab_met (by decide +kernel) (by decide +kernel) (Nat.le_of_ble_eq_true rfl) rfl (x_X12_evenYear ht0 hf)
set_option maxHeartbeats 4000000 in
set_option maxRecDepth 100000 in
theorem x_X12_holds {d : Nat} {t0 : Nat} {i1 : Int32} {h : ab_HP} {r : Int32} (ht0 : (ab_shp t0).1 = 5) (hf : f_X12_holds t0 i1 h = some r) : ab_T mX12_holds (d + 0) 0 0 0 0 0 [some (va_rf (some t0)), some (.int i1)] [] h (ab_Pb r h) := by
  unfold f_X12_holds at hf
  refine ab_aload_n (x := _) (pc2 := 1) dX12_holds_0 rfl rfl ?_
  refine ab_getR (pc2 := 4) rfl ht0 fa_X12_49 dX12_holds_1 rfl (fun T1 => ?_)
  refine ab_iload_n (pc2 := 5) dX12_holds_4 rfl rfl ?_
  obtain ⟨q2, hq2, hf⟩ := ab_bind hf
  obtain ⟨b3, hf⟩ := ab_guard hf
  refine ab_iald (pc2 := 6) hq2 (T1 q2 hq2) (ab_in_vp b3) dX12_holds_5 rfl ?_
  refine ab_iconst (pc2 := 7) (v := 2) dX12_holds_6 rfl ab_k_iconst_2 ?_
  refine ab_icmp_eq (tgt := 20) (pc2 := 10) dX12_holds_7 (by decide) rfl hf (fun c4 hf => ?_) (fun c4 hf => ?_)
  · refine ab_iconst (pc2 := 21) (v := 1) dX12_holds_20 rfl ab_k_iconst_1 ?_
    refine ab_goto (tgt := 25) dX12_holds_21 (by decide) ?_
    cases Option.some.inj hf
    exact ab_retI dX12_holds_25 (Or.inr ⟨rfl, (Or.inr rfl)⟩) (Nat.le_refl _) (Nat.le_refl _) ⟨rfl, rfl, (Or.inr rfl)⟩
  · refine ab_aload_n (x := _) (pc2 := 11) dX12_holds_10 rfl rfl ?_
    refine ab_getR (pc2 := 14) rfl ht0 fa_X12_49 dX12_holds_11 rfl (fun T5 => ?_)
    refine ab_iload_n (pc2 := 15) dX12_holds_14 rfl rfl ?_
    obtain ⟨q6, hq6, hf⟩ := ab_bind hf
    obtain ⟨b7, hf⟩ := ab_guard hf
    refine ab_iald (pc2 := 16) hq6 (T5 q6 hq6) (ab_in_vp b7) dX12_holds_15 rfl ?_
    refine ab_iconst (pc2 := 17) (v := 3) dX12_holds_16 rfl ab_k_iconst_3 ?_
    refine ab_icmp_ne (tgt := 24) (pc2 := 20) dX12_holds_17 (by decide) rfl hf (fun c8 hf => ?_) (fun c8 hf => ?_)
    · refine ab_iconst (pc2 := 25) (v := 0) dX12_holds_24 rfl ab_k_iconst_0 ?_
      cases Option.some.inj hf
      exact ab_retI dX12_holds_25 (Or.inr ⟨rfl, (Or.inl rfl)⟩) (Nat.le_refl _) (Nat.le_refl _) ⟨rfl, rfl, (Or.inl rfl)⟩
    · refine ab_iconst (pc2 := 21) (v := 1) dX12_holds_20 rfl ab_k_iconst_1 ?_
      refine ab_goto (tgt := 25) dX12_holds_21 (by decide) ?_
      cases Option.some.inj hf
      exact ab_retI dX12_holds_25 (Or.inr ⟨rfl, (Or.inr rfl)⟩) (Nat.le_refl _) (Nat.le_refl _) ⟨rfl, rfl, (Or.inr rfl)⟩
set_option maxHeartbeats 4000000 in
set_option maxRecDepth 100000 in
theorem m_X12_holds {d : Nat} {t0 : Nat} {i1 : Int32} {h : ab_HP} {r : Int32} (ht0 : (ab_shp t0).1 = 5) (hf : f_X12_holds t0 i1 h = some r) : ab_MET mX12_holds (d + 0) 0 0 [va_rf (some t0), .int i1] h (ab_Pb r h) := ab_met (by decide +kernel) (by decide +kernel) (Nat.le_of_ble_eq_true rfl) rfl (x_X12_holds ht0 hf)
set_option maxHeartbeats 4000000 in
set_option maxRecDepth 100000 in
theorem x_X12_isHeld_l4 {d : Nat} {t0 : Nat} {r : Int32} (ht0 : (ab_shp t0).1 = 5) : ∀ (n : Nat) (i1 : Int32) (i2 : Int32) (h : ab_HP), f_X12_isHeld_l4 t0 n i1 i2 h = some r → ab_T mX12_isHeld (d + 1) 0 0 0 0 4 [some (va_rf (some t0)), some (.int i1), some (.int i2)] [] h (ab_Pb r h) := by
  intro n
  induction n with
  | zero =>
    intro i1 i2 h hf
    rw [f_X12_isHeld_l4] at hf
    cases hf
  | succ n ih =>
    intro i1 i2 h hf
    rw [f_X12_isHeld_l4] at hf
    refine ab_iload_n (pc2 := 5) dX12_isHeld_4 rfl rfl ?_
    refine ab_aload_n (x := _) (pc2 := 6) dX12_isHeld_5 rfl rfl ?_
    refine ab_getI (pc2 := 9) rfl ht0 fa_X12_166 (by decide) dX12_isHeld_6 rfl ?_
    refine ab_icmp_ge (tgt := 49) (pc2 := 12) dX12_isHeld_9 (by decide) rfl hf (fun c1 hf => ?_) (fun c1 hf => ?_)
    · refine ab_iconst (pc2 := 50) (v := 0) dX12_isHeld_49 rfl ab_k_iconst_0 ?_
      cases Option.some.inj hf
      exact ab_retI dX12_isHeld_50 (Or.inr ⟨rfl, (Or.inl rfl)⟩) (Nat.le_refl _) (Nat.le_refl _) ⟨rfl, rfl, (Or.inl rfl)⟩
    · refine ab_aload_n (x := _) (pc2 := 13) dX12_isHeld_12 rfl rfl ?_
      refine ab_iload_n (pc2 := 14) dX12_isHeld_13 rfl rfl ?_
      obtain ⟨w2, ew2, hf⟩ := ab_bind hf
      refine ab_callV (pc2 := 17) (st := []) rfl ht0 (by decide) (m_X12_holds (d := (d + 0)) ht0 ew2) mf_X12_holds tw_212 tw_211 ts_X12_holds (Or.inl (by decide +kernel)) dX12_isHeld_14 rfl (by omega) (Nat.le_refl _) (Nat.le_refl _) rfl (Nat.le_of_ble_eq_true rfl) (fun v u hp => ?_)
      obtain ⟨rfl, rfl, z3⟩ := hp
      show ab_T _ _ _ _ 0 0 17 _ (.int _ :: []) _ _
      refine ab_if_eq (tgt := 43) (pc2 := 20) dX12_isHeld_17 (by decide) rfl hf (fun c4 hf => ?_) (fun c4 hf => ?_)
      · refine ab_iinc (pc2 := 46) (v := _ + 1) (lo2 := [some (va_rf _), some (.int _), some (.int _)]) dX12_isHeld_43 rfl rfl rfl (by decide) rfl ?_
        refine ab_goto (tgt := 4) dX12_isHeld_46 (by decide) ?_
        exact ab_weak (ih _ _ _ hf) (ab_leS (ab_leS (ab_leS ab_le0)))
      · refine ab_aload_n (x := _) (pc2 := 21) dX12_isHeld_20 rfl rfl ?_
        refine ab_aload_n (x := _) (pc2 := 22) dX12_isHeld_21 rfl rfl ?_
        refine ab_getR (pc2 := 25) rfl ht0 fa_X12_40 dX12_isHeld_22 rfl (fun T5 => ?_)
        refine ab_iload_n (pc2 := 26) dX12_isHeld_25 rfl rfl ?_
        obtain ⟨q6, hq6, hf⟩ := ab_bind hf
        obtain ⟨b7, hf⟩ := ab_guard hf
        refine ab_iald (pc2 := 27) hq6 (T5 q6 hq6) (ab_in_vp b7) dX12_isHeld_26 rfl ?_
        refine ab_iconst (pc2 := 28) (v := 1) dX12_isHeld_27 rfl ab_k_iconst_1 ?_
        obtain ⟨w8, ew8, hf⟩ := ab_bind hf
        refine ab_callV (pc2 := 31) (st := []) rfl ht0 (by decide) (m_X12_get (d := (d + 0)) ht0 ew8) mf_X12_get tw_129 tw_128 ts_X12_get (Or.inl (by decide +kernel)) dX12_isHeld_28 rfl (by omega) (Nat.le_refl _) (Nat.le_refl _) rfl (Nat.le_of_ble_eq_true rfl) (fun v u hp => ?_)
        obtain ⟨rfl, rfl⟩ := hp
        show ab_T _ _ _ _ 0 0 31 _ (.int _ :: []) _ _
        refine ab_aload_n (x := _) (pc2 := 32) dX12_isHeld_31 rfl rfl ?_
        refine ab_getR (pc2 := 35) rfl ht0 fa_X12_43 dX12_isHeld_32 rfl (fun T9 => ?_)
        refine ab_iload_n (pc2 := 36) dX12_isHeld_35 rfl rfl ?_
        obtain ⟨q10, hq10, hf⟩ := ab_bind hf
        obtain ⟨b11, hf⟩ := ab_guard hf
        refine ab_iald (pc2 := 37) hq10 (T9 q10 hq10) (ab_in_vp b11) dX12_isHeld_36 rfl ?_
        refine ab_iand (pc2 := 38) dX12_isHeld_37 rfl ?_
        refine ab_if_eq (tgt := 43) (pc2 := 41) dX12_isHeld_38 (by decide) rfl hf (fun c12 hf => ?_) (fun c12 hf => ?_)
        · refine ab_iinc (pc2 := 46) (v := _ + 1) (lo2 := [some (va_rf _), some (.int _), some (.int _)]) dX12_isHeld_43 rfl rfl rfl (by decide) rfl ?_
          refine ab_goto (tgt := 4) dX12_isHeld_46 (by decide) ?_
          exact ab_weak (ih _ _ _ hf) (ab_leS (ab_leS (ab_leS ab_le0)))
        · refine ab_iconst (pc2 := 42) (v := 1) dX12_isHeld_41 rfl ab_k_iconst_1 ?_
          cases Option.some.inj hf
          exact ab_retI dX12_isHeld_42 (Or.inr ⟨rfl, (Or.inr rfl)⟩) (Nat.le_refl _) (Nat.le_refl _) ⟨rfl, rfl, (Or.inr rfl)⟩
set_option maxHeartbeats 4000000 in
set_option maxRecDepth 100000 in
theorem x_X12_isHeld {d : Nat} {t0 : Nat} {i1 : Int32} {h : ab_HP} {r : Int32} (ht0 : (ab_shp t0).1 = 5) (hf : f_X12_isHeld t0 i1 h = some r) : ab_T mX12_isHeld (d + 1) 0 0 0 0 0 [some (va_rf (some t0)), some (.int i1), none] [] h (ab_Pb r h) := by
  unfold f_X12_isHeld at hf
  refine ab_iload_n (pc2 := 1) dX12_isHeld_0 rfl rfl ?_
  refine ab_iconst (pc2 := 2) (v := 1) dX12_isHeld_1 rfl ab_k_iconst_1 ?_
  refine ab_iadd (pc2 := 3) dX12_isHeld_2 rfl ?_
  refine ab_istore_n (pc2 := 4) (lo2 := [some (va_rf _), some (.int _), some (.int _)]) dX12_isHeld_3 rfl (by decide) rfl ?_
  exact ab_weak (x_X12_isHeld_l4 ht0 _ _ _ _ hf) (ab_leS (ab_leS (ab_leS ab_le0)))
set_option maxHeartbeats 4000000 in
set_option maxRecDepth 100000 in
theorem m_X12_isHeld {d : Nat} {t0 : Nat} {i1 : Int32} {h : ab_HP} {r : Int32} (ht0 : (ab_shp t0).1 = 5) (hf : f_X12_isHeld t0 i1 h = some r) : ab_MET mX12_isHeld (d + 1) 0 0 [va_rf (some t0), .int i1] h (ab_Pb r h) := ab_met (by decide +kernel) (by decide +kernel) (Nat.le_of_ble_eq_true rfl) rfl (x_X12_isHeld ht0 hf)
set_option maxHeartbeats 4000000 in
set_option maxRecDepth 100000 in
theorem x_X12_undoes {d : Nat} {t0 : Nat} {i1 : Int32} {i2 : Int32} {h : ab_HP} {r : ab_HP} (ht0 : (ab_shp t0).1 = 5) (hf : f_X12_undoes t0 i1 i2 h = some r) : ab_T mX12_undoes (d + 3) 0 0 0 0 0 [some (va_rf (some t0)), some (.int i1), some (.int i2)] [] h (ab_Pv r) := by
  unfold f_X12_undoes at hf
  refine ab_aload_n (x := _) (pc2 := 1) dX12_undoes_0 rfl rfl ?_
  refine ab_aload_n (x := _) (pc2 := 2) dX12_undoes_1 rfl rfl ?_
  refine ab_getI (pc2 := 5) rfl ht0 fa_X12_175 (by decide) dX12_undoes_2 rfl ?_
  refine ab_aload_n (x := _) (pc2 := 6) dX12_undoes_5 rfl rfl ?_
  refine ab_getR (pc2 := 9) rfl ht0 fa_X12_43 dX12_undoes_6 rfl (fun T1 => ?_)
  refine ab_iload_n (pc2 := 10) dX12_undoes_9 rfl rfl ?_
  obtain ⟨q2, hq2, hf⟩ := ab_bind hf
  obtain ⟨b3, hf⟩ := ab_guard hf
  refine ab_iald (pc2 := 11) hq2 (T1 q2 hq2) (ab_in_vp b3) dX12_undoes_10 rfl ?_
  refine ab_iconst (pc2 := 12) (v := (-1)) dX12_undoes_11 rfl ab_k_iconst_m1 ?_
  refine ab_ixor (pc2 := 13) dX12_undoes_12 rfl ?_
  refine ab_iand (pc2 := 14) dX12_undoes_13 rfl ?_
  refine ab_aload_n (x := _) (pc2 := 15) dX12_undoes_14 rfl rfl ?_
  refine ab_getR (pc2 := 18) rfl ht0 fa_X12_46 dX12_undoes_15 rfl (fun T4 => ?_)
  refine ab_iload_n (pc2 := 19) dX12_undoes_18 rfl rfl ?_
  obtain ⟨q5, hq5, hf⟩ := ab_bind hf
  obtain ⟨b6, hf⟩ := ab_guard hf
  refine ab_iald (pc2 := 20) hq5 (T4 q5 hq5) (ab_in_vp b6) dX12_undoes_19 rfl ?_
  refine ab_ior (pc2 := 21) dX12_undoes_20 rfl ?_
  have hf := ab_let_e hf
  refine ab_putI (pc2 := 24) rfl ht0 fa_X12_175 (Or.inl rfl) (fun z => by cases z) dX12_undoes_21 rfl ?_
  refine ab_aload_n (x := _) (pc2 := 25) dX12_undoes_24 rfl rfl ?_
  refine ab_dup (pc2 := 26) dX12_undoes_25 rfl (ab_rf1 _) ?_
  refine ab_getI (pc2 := 29) rfl ht0 fa_X12_178 (by decide) dX12_undoes_26 rfl ?_
  refine ab_aload_n (x := _) (pc2 := 30) dX12_undoes_29 rfl rfl ?_
  refine ab_aload_n (x := _) (pc2 := 31) dX12_undoes_30 rfl rfl ?_
  refine ab_getR (pc2 := 34) rfl ht0 fa_X12_40 dX12_undoes_31 rfl (fun T8 => ?_)
  refine ab_iload_n (pc2 := 35) dX12_undoes_34 rfl rfl ?_
  obtain ⟨q9, hq9, hf⟩ := ab_bind hf
  obtain ⟨b10, hf⟩ := ab_guard hf
  refine ab_iald (pc2 := 36) hq9 (T8 q9 hq9) (ab_in_vp b10) dX12_undoes_35 rfl ?_
  obtain ⟨w11, ew11, hf⟩ := ab_bind hf
  refine ab_callV (pc2 := 39) (st := [_, _]) rfl ht0 (by decide) (m_X12_backOf (d := (d + 0)) ht0 ew11) mf_X12_backOf tw_138 tw_137 ts_X12_backOf (Or.inl (by decide +kernel)) dX12_undoes_36 rfl (by omega) (Nat.le_refl _) (Nat.le_refl _) rfl (Nat.le_of_ble_eq_true rfl) (fun v u hp => ?_)
  obtain ⟨rfl, rfl⟩ := hp
  show ab_T _ _ _ _ 0 0 39 _ (.int _ :: [_, _]) _ _
  refine ab_iadd (pc2 := 40) dX12_undoes_39 rfl ?_
  have hf := ab_let_e hf
  refine ab_putI (pc2 := 43) rfl ht0 fa_X12_178 (Or.inl rfl) (fun z => by cases z) dX12_undoes_40 rfl ?_
  refine ab_aload_n (x := _) (pc2 := 44) dX12_undoes_43 rfl rfl ?_
  refine ab_aload_n (x := _) (pc2 := 45) dX12_undoes_44 rfl rfl ?_
  refine ab_getI (pc2 := 48) rfl ht0 fa_X12_178 (by decide) dX12_undoes_45 rfl ?_
  refine ab_sipush (pc2 := 51) (v := 9999) dX12_undoes_48 rfl ab_k_sipush_9999 ?_
  refine ab_icmp_le (tgt := 60) (pc2 := 54) dX12_undoes_51 (by decide) rfl hf (fun c13 hf => ?_) (fun c13 hf => ?_)
  · refine ab_aload_n (x := _) (pc2 := 61) dX12_undoes_60 rfl rfl ?_
    refine ab_getI (pc2 := 64) rfl ht0 fa_X12_178 (by decide) dX12_undoes_61 rfl ?_
    have hf := ab_let_e hf
    refine ab_putI (pc2 := 67) rfl ht0 fa_X12_178 (Or.inl rfl) (fun z => by cases z) dX12_undoes_64 rfl ?_
    refine ab_aload_n (x := _) (pc2 := 68) dX12_undoes_67 rfl rfl ?_
    refine ab_getR (pc2 := 71) rfl ht0 fa_X12_49 dX12_undoes_68 rfl (fun T15 => ?_)
    refine ab_iload_n (pc2 := 72) dX12_undoes_71 rfl rfl ?_
    refine ab_iload_n (pc2 := 73) dX12_undoes_72 rfl rfl ?_
    obtain ⟨q16, hq16, hf⟩ := ab_bind hf
    obtain ⟨b17, hf⟩ := ab_guard hf
    have hf := ab_let_e hf
    refine ab_iast (pc2 := 74) hq16 (T15 q16 hq16) (ab_in_vp b17) dX12_undoes_73 rfl ?_
    refine ab_aload_n (x := _) (pc2 := 75) dX12_undoes_74 rfl rfl ?_
    refine ab_dup (pc2 := 76) dX12_undoes_75 rfl (ab_rf1 _) ?_
    refine ab_getI (pc2 := 79) rfl ht0 fa_X12_184 (by decide) dX12_undoes_76 rfl ?_
    refine ab_iconst (pc2 := 80) (v := 1) dX12_undoes_79 rfl ab_k_iconst_1 ?_
    refine ab_iadd (pc2 := 81) dX12_undoes_80 rfl ?_
    have hf := ab_let_e hf
    refine ab_putI (pc2 := 84) rfl ht0 fa_X12_184 (Or.inl rfl) (fun z => by cases z) dX12_undoes_81 rfl ?_
    cases Option.some.inj hf
    exact ab_retV dX12_undoes_84 rfl (Nat.le_refl _) (Nat.le_refl _) ⟨rfl, rfl⟩
  · refine ab_sipush (pc2 := 57) (v := 9999) dX12_undoes_54 rfl ab_k_sipush_9999 ?_
    refine ab_goto (tgt := 64) dX12_undoes_57 (by decide) ?_
    have hf := ab_let_e hf
    refine ab_putI (pc2 := 67) rfl ht0 fa_X12_178 (Or.inl rfl) (fun z => by cases z) dX12_undoes_64 rfl ?_
    refine ab_aload_n (x := _) (pc2 := 68) dX12_undoes_67 rfl rfl ?_
    refine ab_getR (pc2 := 71) rfl ht0 fa_X12_49 dX12_undoes_68 rfl (fun T21 => ?_)
    refine ab_iload_n (pc2 := 72) dX12_undoes_71 rfl rfl ?_
    refine ab_iload_n (pc2 := 73) dX12_undoes_72 rfl rfl ?_
    obtain ⟨q22, hq22, hf⟩ := ab_bind hf
    obtain ⟨b23, hf⟩ := ab_guard hf
    have hf := ab_let_e hf
    refine ab_iast (pc2 := 74) hq22 (T21 q22 hq22) (ab_in_vp b23) dX12_undoes_73 rfl ?_
    refine ab_aload_n (x := _) (pc2 := 75) dX12_undoes_74 rfl rfl ?_
    refine ab_dup (pc2 := 76) dX12_undoes_75 rfl (ab_rf1 _) ?_
    refine ab_getI (pc2 := 79) rfl ht0 fa_X12_184 (by decide) dX12_undoes_76 rfl ?_
    refine ab_iconst (pc2 := 80) (v := 1) dX12_undoes_79 rfl ab_k_iconst_1 ?_
    refine ab_iadd (pc2 := 81) dX12_undoes_80 rfl ?_
    have hf := ab_let_e hf
    refine ab_putI (pc2 := 84) rfl ht0 fa_X12_184 (Or.inl rfl) (fun z => by cases z) dX12_undoes_81 rfl ?_
    cases Option.some.inj hf
    exact ab_retV dX12_undoes_84 rfl (Nat.le_refl _) (Nat.le_refl _) ⟨rfl, rfl⟩
set_option maxHeartbeats 4000000 in
set_option maxRecDepth 100000 in
theorem m_X12_undoes {d : Nat} {t0 : Nat} {i1 : Int32} {i2 : Int32} {h : ab_HP} {r : ab_HP} (ht0 : (ab_shp t0).1 = 5) (hf : f_X12_undoes t0 i1 i2 h = some r) : ab_MET mX12_undoes (d + 3) 0 0 [va_rf (some t0), .int i1, .int i2] h (ab_Pv r) := ab_met (by decide +kernel) (by decide +kernel) (Nat.le_of_ble_eq_true rfl) rfl (x_X12_undoes ht0 hf)
set_option maxHeartbeats 4000000 in
set_option maxRecDepth 100000 in
theorem x_X12_falls_l15 {d : Nat} {k2 : Int32 → ab_HP → Option ab_HP} {t0 : Nat} {r : ab_HP} (ht0 : (ab_shp t0).1 = 5) (hk2 : ∀ (i1 : Int32) (h : ab_HP), k2 i1 h = some r → ab_T mX12_falls (d + 4) 0 0 0 0 2 [some (va_rf (some t0)), some (.int i1), none] [] h (ab_Pv r)) : ∀ (n : Nat) (i1 : Int32) (i2 : Int32) (h : ab_HP), f_X12_falls_l15 k2 t0 n i1 i2 h = some r → ab_T mX12_falls (d + 4) 0 0 0 0 15 [some (va_rf (some t0)), some (.int i1), some (.int i2)] [] h (ab_Pv r) := by
  intro n
  induction n with
  | zero =>
    intro i1 i2 h hf
    rw [f_X12_falls_l15] at hf
    cases hf
  | succ n ih =>
    intro i1 i2 h hf
    rw [f_X12_falls_l15] at hf
    refine ab_iload_n (pc2 := 16) dX12_falls_15 rfl rfl ?_
    refine ab_if_lt (tgt := 65) (pc2 := 19) dX12_falls_16 (by decide) rfl hf (fun c2 hf => ?_) (fun c2 hf => ?_)
    · refine ab_goto (tgt := 2) dX12_falls_65 (by decide) ?_
      exact ab_weak (hk2 _ _ hf) (ab_leS (ab_leS (ab_leN ab_le0)))
    · refine ab_aload_n (x := _) (pc2 := 20) dX12_falls_19 rfl rfl ?_
      refine ab_iload_n (pc2 := 21) dX12_falls_20 rfl rfl ?_
      obtain ⟨w3, ew3, hf⟩ := ab_bind hf
      refine ab_callV (pc2 := 24) (st := []) rfl ht0 (by decide) (m_X12_holds (d := (d + 3)) ht0 ew3) mf_X12_holds tw_212 tw_211 ts_X12_holds (Or.inl (by decide +kernel)) dX12_falls_21 rfl (by omega) (Nat.le_refl _) (Nat.le_refl _) rfl (Nat.le_of_ble_eq_true rfl) (fun v u hp => ?_)
      obtain ⟨rfl, rfl, z4⟩ := hp
      show ab_T _ _ _ _ 0 0 24 _ (.int _ :: []) _ _
      refine ab_if_eq (tgt := 59) (pc2 := 27) dX12_falls_24 (by decide) rfl hf (fun c5 hf => ?_) (fun c5 hf => ?_)
      · refine ab_iinc (pc2 := 62) (v := _ + (-1)) (lo2 := [some (va_rf _), some (.int _), some (.int _)]) dX12_falls_59 rfl rfl rfl (by decide) rfl ?_
        refine ab_goto (tgt := 15) dX12_falls_62 (by decide) ?_
        exact ab_weak (ih _ _ _ hf) (ab_leS (ab_leS (ab_leS ab_le0)))
      · refine ab_aload_n (x := _) (pc2 := 28) dX12_falls_27 rfl rfl ?_
        refine ab_aload_n (x := _) (pc2 := 29) dX12_falls_28 rfl rfl ?_
        refine ab_getR (pc2 := 32) rfl ht0 fa_X12_40 dX12_falls_29 rfl (fun T6 => ?_)
        refine ab_iload_n (pc2 := 33) dX12_falls_32 rfl rfl ?_
        obtain ⟨q7, hq7, hf⟩ := ab_bind hf
        obtain ⟨b8, hf⟩ := ab_guard hf
        refine ab_iald (pc2 := 34) hq7 (T6 q7 hq7) (ab_in_vp b8) dX12_falls_33 rfl ?_
        refine ab_iconst (pc2 := 35) (v := 1) dX12_falls_34 rfl ab_k_iconst_1 ?_
        obtain ⟨w9, ew9, hf⟩ := ab_bind hf
        refine ab_callV (pc2 := 38) (st := []) rfl ht0 (by decide) (m_X12_get (d := (d + 3)) ht0 ew9) mf_X12_get tw_129 tw_128 ts_X12_get (Or.inl (by decide +kernel)) dX12_falls_35 rfl (by omega) (Nat.le_refl _) (Nat.le_refl _) rfl (Nat.le_of_ble_eq_true rfl) (fun v u hp => ?_)
        obtain ⟨rfl, rfl⟩ := hp
        show ab_T _ _ _ _ 0 0 38 _ (.int _ :: []) _ _
        refine ab_aload_n (x := _) (pc2 := 39) dX12_falls_38 rfl rfl ?_
        refine ab_getI (pc2 := 42) rfl ht0 fa_X12_175 (by decide) dX12_falls_39 rfl ?_
        refine ab_iconst (pc2 := 43) (v := (-1)) dX12_falls_42 rfl ab_k_iconst_m1 ?_
        refine ab_ixor (pc2 := 44) dX12_falls_43 rfl ?_
        refine ab_iand (pc2 := 45) dX12_falls_44 rfl ?_
        refine ab_if_ne (tgt := 51) (pc2 := 48) dX12_falls_45 (by decide) rfl hf (fun c10 hf => ?_) (fun c10 hf => ?_)
        · refine ab_aload_n (x := _) (pc2 := 52) dX12_falls_51 rfl rfl ?_
          refine ab_iload_n (pc2 := 53) dX12_falls_52 rfl rfl ?_
          refine ab_iconst (pc2 := 54) (v := 5) dX12_falls_53 rfl ab_k_iconst_5 ?_
          obtain ⟨w11, ew11, hf⟩ := ab_bind hf
          refine ab_callV (pc2 := 57) (st := []) rfl ht0 (by decide) (m_X12_undoes (d := (d + 0)) ht0 ew11) mf_X12_undoes tw_214 tw_213 ts_X12_undoes (Or.inl (by decide +kernel)) dX12_falls_54 rfl (by omega) (Nat.le_refl _) (Nat.le_refl _) rfl (Nat.le_of_ble_eq_true rfl) (fun v u hp => ?_)
          obtain ⟨rfl, rfl⟩ := hp
          show ab_T _ _ _ _ 0 0 57 _ ([]) _ _
          refine ab_iconst (pc2 := 58) (v := 1) dX12_falls_57 rfl ab_k_iconst_1 ?_
          refine ab_istore_n (pc2 := 59) (lo2 := [some (va_rf _), some (.int _), some (.int _)]) dX12_falls_58 rfl (by decide) rfl ?_
          refine ab_iinc (pc2 := 62) (v := _ + (-1)) (lo2 := [some (va_rf _), some (.int _), some (.int _)]) dX12_falls_59 rfl rfl rfl (by decide) rfl ?_
          refine ab_goto (tgt := 15) dX12_falls_62 (by decide) ?_
          exact ab_weak (ih _ _ _ hf) (ab_leS (ab_leS (ab_leS ab_le0)))
        · refine ab_goto (tgt := 59) dX12_falls_48 (by decide) ?_
          refine ab_iinc (pc2 := 62) (v := _ + (-1)) (lo2 := [some (va_rf _), some (.int _), some (.int _)]) dX12_falls_59 rfl rfl rfl (by decide) rfl ?_
          refine ab_goto (tgt := 15) dX12_falls_62 (by decide) ?_
          exact ab_weak (ih _ _ _ hf) (ab_leS (ab_leS (ab_leS ab_le0)))
set_option maxHeartbeats 4000000 in
set_option maxRecDepth 100000 in
theorem x_X12_falls_l2 {d : Nat} {t0 : Nat} {r : ab_HP} (ht0 : (ab_shp t0).1 = 5) : ∀ (n : Nat) (i1 : Int32) (h : ab_HP), f_X12_falls_l2 t0 n i1 h = some r → ab_T mX12_falls (d + 4) 0 0 0 0 2 [some (va_rf (some t0)), some (.int i1), none] [] h (ab_Pv r) := by
  intro n
  induction n with
  | zero =>
    intro i1 h hf
    rw [f_X12_falls_l2] at hf
    cases hf
  | succ n ih =>
    intro i1 h hf
    rw [f_X12_falls_l2] at hf
    refine ab_iload_n (pc2 := 3) dX12_falls_2 rfl rfl ?_
    refine ab_if_eq (tgt := 68) (pc2 := 6) dX12_falls_3 (by decide) rfl hf (fun c1 hf => ?_) (fun c1 hf => ?_)
    · cases Option.some.inj hf
      exact ab_retV dX12_falls_68 rfl (Nat.le_refl _) (Nat.le_refl _) ⟨rfl, rfl⟩
    · refine ab_iconst (pc2 := 7) (v := 0) dX12_falls_6 rfl ab_k_iconst_0 ?_
      refine ab_istore_n (pc2 := 8) (lo2 := [some (va_rf _), some (.int _), none]) dX12_falls_7 rfl (by decide) rfl ?_
      refine ab_aload_n (x := _) (pc2 := 9) dX12_falls_8 rfl rfl ?_
      refine ab_getI (pc2 := 12) rfl ht0 fa_X12_166 (by decide) dX12_falls_9 rfl ?_
      refine ab_iconst (pc2 := 13) (v := 1) dX12_falls_12 rfl ab_k_iconst_1 ?_
      refine ab_isub (pc2 := 14) dX12_falls_13 rfl ?_
      refine ab_istore_n (pc2 := 15) (lo2 := [some (va_rf _), some (.int _), some (.int _)]) dX12_falls_14 rfl (by decide) rfl ?_
      exact ab_weak (x_X12_falls_l15 ht0 ih _ _ _ _ hf) (ab_leS (ab_leS (ab_leS ab_le0)))
set_option maxHeartbeats 4000000 in
set_option maxRecDepth 100000 in
theorem x_X12_falls {d : Nat} {t0 : Nat} {h : ab_HP} {r : ab_HP} (ht0 : (ab_shp t0).1 = 5) (hf : f_X12_falls t0 h = some r) : ab_T mX12_falls (d + 4) 0 0 0 0 0 [some (va_rf (some t0)), none, none] [] h (ab_Pv r) := by
  unfold f_X12_falls at hf
  refine ab_iconst (pc2 := 1) (v := 1) dX12_falls_0 rfl ab_k_iconst_1 ?_
  refine ab_istore_n (pc2 := 2) (lo2 := [some (va_rf _), some (.int _), none]) dX12_falls_1 rfl (by decide) rfl ?_
  exact ab_weak (x_X12_falls_l2 ht0 _ _ _ hf) (ab_leS (ab_leS (ab_leN ab_le0)))
set_option maxHeartbeats 4000000 in
set_option maxRecDepth 100000 in
theorem m_X12_falls {d : Nat} {t0 : Nat} {h : ab_HP} {r : ab_HP} (ht0 : (ab_shp t0).1 = 5) (hf : f_X12_falls t0 h = some r) : ab_MET mX12_falls (d + 4) 0 0 [va_rf (some t0)] h (ab_Pv r) := ab_met (by decide +kernel) (by decide +kernel) (Nat.le_of_ble_eq_true rfl) rfl (x_X12_falls ht0 hf)
set_option maxHeartbeats 4000000 in
set_option maxRecDepth 100000 in
theorem x_X12_oddYear_b52 {d : Nat} {k7 : Int32 → ab_HP → Option ab_HP} {t0 : Nat} {i1 : Int32} {h : ab_HP} {r : ab_HP} (ht0 : (ab_shp t0).1 = 5) (hk7 : ∀ (i1 : Int32) (h : ab_HP), k7 i1 h = some r → ab_T mX12_oddYear (d + 5) 0 0 0 0 7 [some (va_rf (some t0)), some (.int i1)] [] h (ab_Pv r)) (hf : f_X12_oddYear_b52 k7 t0 i1 h = some r) : ab_T mX12_oddYear (d + 5) 0 0 0 0 52 [some (va_rf (some t0)), some (.int i1)] [] h (ab_Pv r) := by
  unfold f_X12_oddYear_b52 at hf
  refine ab_aload_n (x := _) (pc2 := 53) dX12_oddYear_52 rfl rfl ?_
  refine ab_iload_n (pc2 := 54) dX12_oddYear_53 rfl rfl ?_
  refine ab_iconst (pc2 := 55) (v := 1) dX12_oddYear_54 rfl ab_k_iconst_1 ?_
  obtain ⟨w17, ew17, hf⟩ := ab_bind hf
  refine ab_callV (pc2 := 58) (st := []) rfl ht0 (by decide) (m_X12_undoes (d := (d + 1)) ht0 ew17) mf_X12_undoes tw_214 tw_213 ts_X12_undoes (Or.inl (by decide +kernel)) dX12_oddYear_55 rfl (by omega) (Nat.le_refl _) (Nat.le_refl _) rfl (Nat.le_of_ble_eq_true rfl) (fun v u hp => ?_)
  obtain ⟨rfl, rfl⟩ := hp
  show ab_T _ _ _ _ 0 0 58 _ ([]) _ _
  refine ab_aload_n (x := _) (pc2 := 59) dX12_oddYear_58 rfl rfl ?_
  refine ab_getR (pc2 := 62) rfl ht0 fa_X12_9 dX12_oddYear_59 rfl (fun T18 => ?_)
  refine ab_iconst (pc2 := 63) (v := 3) dX12_oddYear_62 rfl ab_k_iconst_3 ?_
  obtain ⟨q19, hq19, hf⟩ := ab_bind hf
  obtain ⟨b20, hf⟩ := ab_guard hf
  refine ab_iald (pc2 := 64) hq19 (T18 q19 hq19) (ab_in_vp b20) dX12_oddYear_63 rfl ?_
  refine ab_if_ne (tgt := 71) (pc2 := 67) dX12_oddYear_64 (by decide) rfl hf (fun c21 hf => ?_) (fun c21 hf => ?_)
  · refine ab_iinc (pc2 := 74) (v := _ + (-1)) (lo2 := [some (va_rf _), some (.int _)]) dX12_oddYear_71 rfl rfl rfl (by decide) rfl ?_
    refine ab_goto (tgt := 7) dX12_oddYear_74 (by decide) ?_
    exact ab_weak (hk7 _ _ hf) (ab_leS (ab_leS ab_le0))
  · refine ab_aload_n (x := _) (pc2 := 68) dX12_oddYear_67 rfl rfl ?_
    obtain ⟨w22, ew22, hf⟩ := ab_bind hf
    refine ab_callV (pc2 := 71) (st := []) rfl ht0 (by decide) (m_X12_falls (d := (d + 0)) ht0 ew22) mf_X12_falls tw_218 tw_217 ts_X12_falls (Or.inl (by decide +kernel)) dX12_oddYear_68 rfl (by omega) (Nat.le_refl _) (Nat.le_refl _) rfl (Nat.le_of_ble_eq_true rfl) (fun v u hp => ?_)
    obtain ⟨rfl, rfl⟩ := hp
    show ab_T _ _ _ _ 0 0 71 _ ([]) _ _
    refine ab_iinc (pc2 := 74) (v := _ + (-1)) (lo2 := [some (va_rf _), some (.int _)]) dX12_oddYear_71 rfl rfl rfl (by decide) rfl ?_
    refine ab_goto (tgt := 7) dX12_oddYear_74 (by decide) ?_
    exact ab_weak (hk7 _ _ hf) (ab_leS (ab_leS ab_le0))
set_option maxHeartbeats 4000000 in
set_option maxRecDepth 100000 in
theorem x_X12_oddYear_l7 {d : Nat} {t0 : Nat} {r : ab_HP} (ht0 : (ab_shp t0).1 = 5) : ∀ (n : Nat) (i1 : Int32) (h : ab_HP), f_X12_oddYear_l7 t0 n i1 h = some r → ab_T mX12_oddYear (d + 5) 0 0 0 0 7 [some (va_rf (some t0)), some (.int i1)] [] h (ab_Pv r) := by
  intro n
  induction n with
  | zero =>
    intro i1 h hf
    rw [f_X12_oddYear_l7] at hf
    cases hf
  | succ n ih =>
    intro i1 h hf
    rw [f_X12_oddYear_l7] at hf
    refine ab_iload_n (pc2 := 8) dX12_oddYear_7 rfl rfl ?_
    refine ab_if_lt (tgt := 77) (pc2 := 11) dX12_oddYear_8 (by decide) rfl hf (fun c1 hf => ?_) (fun c1 hf => ?_)
    · cases Option.some.inj hf
      exact ab_retV dX12_oddYear_77 rfl (Nat.le_refl _) (Nat.le_refl _) ⟨rfl, rfl⟩
    · refine ab_aload_n (x := _) (pc2 := 12) dX12_oddYear_11 rfl rfl ?_
      refine ab_getR (pc2 := 15) rfl ht0 fa_X12_49 dX12_oddYear_12 rfl (fun T2 => ?_)
      refine ab_iload_n (pc2 := 16) dX12_oddYear_15 rfl rfl ?_
      obtain ⟨q3, hq3, hf⟩ := ab_bind hf
      obtain ⟨b4, hf⟩ := ab_guard hf
      refine ab_iald (pc2 := 17) hq3 (T2 q3 hq3) (ab_in_vp b4) dX12_oddYear_16 rfl ?_
      refine ab_iconst (pc2 := 18) (v := 1) dX12_oddYear_17 rfl ab_k_iconst_1 ?_
      refine ab_icmp_eq (tgt := 24) (pc2 := 21) dX12_oddYear_18 (by decide) rfl hf (fun c5 hf => ?_) (fun c5 hf => ?_)
      · refine ab_aload_n (x := _) (pc2 := 25) dX12_oddYear_24 rfl rfl ?_
        refine ab_getR (pc2 := 28) rfl ht0 fa_X12_9 dX12_oddYear_25 rfl (fun T6 => ?_)
        refine ab_iconst (pc2 := 29) (v := 3) dX12_oddYear_28 rfl ab_k_iconst_3 ?_
        obtain ⟨q7, hq7, hf⟩ := ab_bind hf
        obtain ⟨b8, hf⟩ := ab_guard hf
        refine ab_iald (pc2 := 30) hq7 (T6 q7 hq7) (ab_in_vp b8) dX12_oddYear_29 rfl ?_
        refine ab_iconst (pc2 := 31) (v := 1) dX12_oddYear_30 rfl ab_k_iconst_1 ?_
        refine ab_icmp_ne (tgt := 52) (pc2 := 34) dX12_oddYear_31 (by decide) rfl hf (fun c9 hf => ?_) (fun c9 hf => ?_)
        · exact ab_weak (x_X12_oddYear_b52 ht0 ih hf) (ab_leS (ab_leS ab_le0))
        · refine ab_aload_n (x := _) (pc2 := 35) dX12_oddYear_34 rfl rfl ?_
          refine ab_iload_n (pc2 := 36) dX12_oddYear_35 rfl rfl ?_
          obtain ⟨w10, ew10, hf⟩ := ab_bind hf
          refine ab_callV (pc2 := 39) (st := []) rfl ht0 (by decide) (m_X12_isHeld (d := (d + 3)) ht0 ew10) mf_X12_isHeld tw_216 tw_215 ts_X12_isHeld (Or.inl (by decide +kernel)) dX12_oddYear_36 rfl (by omega) (Nat.le_refl _) (Nat.le_refl _) rfl (Nat.le_of_ble_eq_true rfl) (fun v u hp => ?_)
          obtain ⟨rfl, rfl, z11⟩ := hp
          show ab_T _ _ _ _ 0 0 39 _ (.int _ :: []) _ _
          refine ab_if_eq (tgt := 52) (pc2 := 42) dX12_oddYear_39 (by decide) rfl hf (fun c12 hf => ?_) (fun c12 hf => ?_)
          · exact ab_weak (x_X12_oddYear_b52 ht0 ih hf) (ab_leS (ab_leS ab_le0))
          · refine ab_aload_n (x := _) (pc2 := 43) dX12_oddYear_42 rfl rfl ?_
            refine ab_getR (pc2 := 46) rfl ht0 fa_X12_49 dX12_oddYear_43 rfl (fun T13 => ?_)
            refine ab_iload_n (pc2 := 47) dX12_oddYear_46 rfl rfl ?_
            refine ab_iconst (pc2 := 48) (v := 4) dX12_oddYear_47 rfl ab_k_iconst_4 ?_
            obtain ⟨q14, hq14, hf⟩ := ab_bind hf
            obtain ⟨b15, hf⟩ := ab_guard hf
            have hf := ab_let_e hf
            refine ab_iast (pc2 := 49) hq14 (T13 q14 hq14) (ab_in_vp b15) dX12_oddYear_48 rfl ?_
            refine ab_goto (tgt := 71) dX12_oddYear_49 (by decide) ?_
            refine ab_iinc (pc2 := 74) (v := _ + (-1)) (lo2 := [some (va_rf _), some (.int _)]) dX12_oddYear_71 rfl rfl rfl (by decide) rfl ?_
            refine ab_goto (tgt := 7) dX12_oddYear_74 (by decide) ?_
            exact ab_weak (ih _ _ hf) (ab_leS (ab_leS ab_le0))
      · refine ab_goto (tgt := 71) dX12_oddYear_21 (by decide) ?_
        refine ab_iinc (pc2 := 74) (v := _ + (-1)) (lo2 := [some (va_rf _), some (.int _)]) dX12_oddYear_71 rfl rfl rfl (by decide) rfl ?_
        refine ab_goto (tgt := 7) dX12_oddYear_74 (by decide) ?_
        exact ab_weak (ih _ _ hf) (ab_leS (ab_leS ab_le0))
set_option maxHeartbeats 4000000 in
set_option maxRecDepth 100000 in
theorem x_X12_oddYear {d : Nat} {t0 : Nat} {h : ab_HP} {r : ab_HP} (ht0 : (ab_shp t0).1 = 5) (hf : f_X12_oddYear t0 h = some r) : ab_T mX12_oddYear (d + 5) 0 0 0 0 0 [some (va_rf (some t0)), none] [] h (ab_Pv r) := by
  unfold f_X12_oddYear at hf
  refine ab_aload_n (x := _) (pc2 := 1) dX12_oddYear_0 rfl rfl ?_
  refine ab_getI (pc2 := 4) rfl ht0 fa_X12_166 (by decide) dX12_oddYear_1 rfl ?_
  refine ab_iconst (pc2 := 5) (v := 1) dX12_oddYear_4 rfl ab_k_iconst_1 ?_
  refine ab_isub (pc2 := 6) dX12_oddYear_5 rfl ?_
  refine ab_istore_n (pc2 := 7) (lo2 := [some (va_rf _), some (.int _)]) dX12_oddYear_6 rfl (by decide) rfl ?_
  exact ab_weak (x_X12_oddYear_l7 ht0 _ _ _ hf) (ab_leS (ab_leS ab_le0))
set_option maxHeartbeats 4000000 in
set_option maxRecDepth 100000 in
theorem m_X12_oddYear {d : Nat} {t0 : Nat} {h : ab_HP} {r : ab_HP} (ht0 : (ab_shp t0).1 = 5) (hf : f_X12_oddYear t0 h = some r) : ab_MET mX12_oddYear (d + 5) 0 0 [va_rf (some t0)] h (ab_Pv r) := ab_met (by decide +kernel) (by decide +kernel) (Nat.le_of_ble_eq_true rfl) rfl (x_X12_oddYear ht0 hf)
set_option maxHeartbeats 4000000 in
set_option maxRecDepth 100000 in
theorem x_X12_pairOf {d : Nat} {t0 : Nat} {h : ab_HP} {r : ab_HP} (ht0 : (ab_shp t0).1 = 5) (hf : f_X12_pairOf t0 h = some r) : ab_T mX12_pairOf (d + 6) 0 0 0 0 0 [some (va_rf (some t0))] [] h (ab_Pv r) := by
  unfold f_X12_pairOf at hf
  refine ab_aload_n (x := _) (pc2 := 1) dX12_pairOf_0 rfl rfl ?_
  obtain ⟨w1, ew1, hf⟩ := ab_bind hf
  refine ab_callV (pc2 := 4) (st := []) rfl ht0 (by decide) (m_X12_evenYear (d := (d + 2)) ht0 ew1) mf_X12_evenYear tw_220 tw_219 ts_X12_evenYear (Or.inl (by decide +kernel)) dX12_pairOf_1 rfl (by omega) (Nat.le_refl _) (Nat.le_refl _) rfl (Nat.le_of_ble_eq_true rfl) (fun v u hp => ?_)
  obtain ⟨rfl, rfl⟩ := hp
  show ab_T _ _ _ _ 0 0 4 _ ([]) _ _
  refine ab_aload_n (x := _) (pc2 := 5) dX12_pairOf_4 rfl rfl ?_
  obtain ⟨w2, ew2, hf⟩ := ab_bind hf
  refine ab_callV (pc2 := 8) (st := []) rfl ht0 (by decide) (m_X12_oddYear (d := (d + 0)) ht0 ew2) mf_X12_oddYear tw_222 tw_221 ts_X12_oddYear (Or.inl (by decide +kernel)) dX12_pairOf_5 rfl (by omega) (Nat.le_refl _) (Nat.le_refl _) rfl (Nat.le_of_ble_eq_true rfl) (fun v u hp => ?_)
  obtain ⟨rfl, rfl⟩ := hp
  show ab_T _ _ _ _ 0 0 8 _ ([]) _ _
  cases Option.some.inj hf
  exact ab_retV dX12_pairOf_8 rfl (Nat.le_refl _) (Nat.le_refl _) ⟨rfl, rfl⟩
set_option maxHeartbeats 4000000 in
set_option maxRecDepth 100000 in
theorem m_X12_pairOf {d : Nat} {t0 : Nat} {h : ab_HP} {r : ab_HP} (ht0 : (ab_shp t0).1 = 5) (hf : f_X12_pairOf t0 h = some r) : ab_MET mX12_pairOf (d + 6) 0 0 [va_rf (some t0)] h (ab_Pv r) := ab_met (by decide +kernel) (by decide +kernel) (Nat.le_of_ble_eq_true rfl) rfl (x_X12_pairOf ht0 hf)
set_option maxHeartbeats 4000000 in
set_option maxRecDepth 100000 in
theorem x_X12_standing_l4 {d : Nat} {t0 : Nat} {r : Int32} (ht0 : (ab_shp t0).1 = 5) : ∀ (n : Nat) (i1 : Int32) (i2 : Int32) (h : ab_HP), f_X12_standing_l4 t0 n i1 i2 h = some r → ab_T mX12_standing (d + 0) 0 0 0 0 4 [some (va_rf (some t0)), some (.int i1), some (.int i2)] [] h (ab_Pi r h) := by
  intro n
  induction n with
  | zero =>
    intro i1 i2 h hf
    rw [f_X12_standing_l4] at hf
    cases hf
  | succ n ih =>
    intro i1 i2 h hf
    rw [f_X12_standing_l4] at hf
    refine ab_iload_n (pc2 := 5) dX12_standing_4 rfl rfl ?_
    refine ab_aload_n (x := _) (pc2 := 6) dX12_standing_5 rfl rfl ?_
    refine ab_getI (pc2 := 9) rfl ht0 fa_X12_166 (by decide) dX12_standing_6 rfl ?_
    refine ab_icmp_ge (tgt := 56) (pc2 := 12) dX12_standing_9 (by decide) rfl hf (fun c1 hf => ?_) (fun c1 hf => ?_)
    · refine ab_iload_n (pc2 := 57) dX12_standing_56 rfl rfl ?_
      cases Option.some.inj hf
      exact ab_retI dX12_standing_57 (Or.inl rfl) (Nat.le_refl _) (Nat.le_refl _) ⟨rfl, rfl⟩
    · refine ab_iload_n (pc2 := 13) dX12_standing_12 rfl rfl ?_
      refine ab_aload_n (x := _) (pc2 := 14) dX12_standing_13 rfl rfl ?_
      refine ab_getR (pc2 := 17) rfl ht0 fa_X12_49 dX12_standing_14 rfl (fun T2 => ?_)
      refine ab_iload_n (pc2 := 18) dX12_standing_17 rfl rfl ?_
      obtain ⟨q3, hq3, hf⟩ := ab_bind hf
      obtain ⟨b4, hf⟩ := ab_guard hf
      refine ab_iald (pc2 := 19) hq3 (T2 q3 hq3) (ab_in_vp b4) dX12_standing_18 rfl ?_
      refine ab_iconst (pc2 := 20) (v := 2) dX12_standing_19 rfl ab_k_iconst_2 ?_
      refine ab_icmp_eq (tgt := 43) (pc2 := 23) dX12_standing_20 (by decide) rfl hf (fun c5 hf => ?_) (fun c5 hf => ?_)
      · refine ab_iconst (pc2 := 44) (v := 1) dX12_standing_43 rfl ab_k_iconst_1 ?_
        refine ab_goto (tgt := 48) dX12_standing_44 (by decide) ?_
        refine ab_iadd (pc2 := 49) dX12_standing_48 rfl ?_
        refine ab_istore_n (pc2 := 50) (lo2 := [some (va_rf _), some (.int _), some (.int _)]) dX12_standing_49 rfl (by decide) rfl ?_
        refine ab_iinc (pc2 := 53) (v := _ + 1) (lo2 := [some (va_rf _), some (.int _), some (.int _)]) dX12_standing_50 rfl rfl rfl (by decide) rfl ?_
        refine ab_goto (tgt := 4) dX12_standing_53 (by decide) ?_
        exact ab_weak (ih _ _ _ hf) (ab_leS (ab_leS (ab_leS ab_le0)))
      · refine ab_aload_n (x := _) (pc2 := 24) dX12_standing_23 rfl rfl ?_
        refine ab_getR (pc2 := 27) rfl ht0 fa_X12_49 dX12_standing_24 rfl (fun T6 => ?_)
        refine ab_iload_n (pc2 := 28) dX12_standing_27 rfl rfl ?_
        obtain ⟨q7, hq7, hf⟩ := ab_bind hf
        obtain ⟨b8, hf⟩ := ab_guard hf
        refine ab_iald (pc2 := 29) hq7 (T6 q7 hq7) (ab_in_vp b8) dX12_standing_28 rfl ?_
        refine ab_iconst (pc2 := 30) (v := 3) dX12_standing_29 rfl ab_k_iconst_3 ?_
        refine ab_icmp_eq (tgt := 43) (pc2 := 33) dX12_standing_30 (by decide) rfl hf (fun c9 hf => ?_) (fun c9 hf => ?_)
        · refine ab_iconst (pc2 := 44) (v := 1) dX12_standing_43 rfl ab_k_iconst_1 ?_
          refine ab_goto (tgt := 48) dX12_standing_44 (by decide) ?_
          refine ab_iadd (pc2 := 49) dX12_standing_48 rfl ?_
          refine ab_istore_n (pc2 := 50) (lo2 := [some (va_rf _), some (.int _), some (.int _)]) dX12_standing_49 rfl (by decide) rfl ?_
          refine ab_iinc (pc2 := 53) (v := _ + 1) (lo2 := [some (va_rf _), some (.int _), some (.int _)]) dX12_standing_50 rfl rfl rfl (by decide) rfl ?_
          refine ab_goto (tgt := 4) dX12_standing_53 (by decide) ?_
          exact ab_weak (ih _ _ _ hf) (ab_leS (ab_leS (ab_leS ab_le0)))
        · refine ab_aload_n (x := _) (pc2 := 34) dX12_standing_33 rfl rfl ?_
          refine ab_getR (pc2 := 37) rfl ht0 fa_X12_49 dX12_standing_34 rfl (fun T10 => ?_)
          refine ab_iload_n (pc2 := 38) dX12_standing_37 rfl rfl ?_
          obtain ⟨q11, hq11, hf⟩ := ab_bind hf
          obtain ⟨b12, hf⟩ := ab_guard hf
          refine ab_iald (pc2 := 39) hq11 (T10 q11 hq11) (ab_in_vp b12) dX12_standing_38 rfl ?_
          refine ab_iconst (pc2 := 40) (v := 4) dX12_standing_39 rfl ab_k_iconst_4 ?_
          refine ab_icmp_ne (tgt := 47) (pc2 := 43) dX12_standing_40 (by decide) rfl hf (fun c13 hf => ?_) (fun c13 hf => ?_)
          · refine ab_iconst (pc2 := 48) (v := 0) dX12_standing_47 rfl ab_k_iconst_0 ?_
            refine ab_iadd (pc2 := 49) dX12_standing_48 rfl ?_
            refine ab_istore_n (pc2 := 50) (lo2 := [some (va_rf _), some (.int _), some (.int _)]) dX12_standing_49 rfl (by decide) rfl ?_
            refine ab_iinc (pc2 := 53) (v := _ + 1) (lo2 := [some (va_rf _), some (.int _), some (.int _)]) dX12_standing_50 rfl rfl rfl (by decide) rfl ?_
            refine ab_goto (tgt := 4) dX12_standing_53 (by decide) ?_
            exact ab_weak (ih _ _ _ hf) (ab_leS (ab_leS (ab_leS ab_le0)))
          · refine ab_iconst (pc2 := 44) (v := 1) dX12_standing_43 rfl ab_k_iconst_1 ?_
            refine ab_goto (tgt := 48) dX12_standing_44 (by decide) ?_
            refine ab_iadd (pc2 := 49) dX12_standing_48 rfl ?_
            refine ab_istore_n (pc2 := 50) (lo2 := [some (va_rf _), some (.int _), some (.int _)]) dX12_standing_49 rfl (by decide) rfl ?_
            refine ab_iinc (pc2 := 53) (v := _ + 1) (lo2 := [some (va_rf _), some (.int _), some (.int _)]) dX12_standing_50 rfl rfl rfl (by decide) rfl ?_
            refine ab_goto (tgt := 4) dX12_standing_53 (by decide) ?_
            exact ab_weak (ih _ _ _ hf) (ab_leS (ab_leS (ab_leS ab_le0)))
set_option maxHeartbeats 4000000 in
set_option maxRecDepth 100000 in
theorem x_X12_standing {d : Nat} {t0 : Nat} {h : ab_HP} {r : Int32} (ht0 : (ab_shp t0).1 = 5) (hf : f_X12_standing t0 h = some r) : ab_T mX12_standing (d + 0) 0 0 0 0 0 [some (va_rf (some t0)), none, none] [] h (ab_Pi r h) := by
  unfold f_X12_standing at hf
  refine ab_iconst (pc2 := 1) (v := 0) dX12_standing_0 rfl ab_k_iconst_0 ?_
  refine ab_istore_n (pc2 := 2) (lo2 := [some (va_rf _), some (.int _), none]) dX12_standing_1 rfl (by decide) rfl ?_
  refine ab_iconst (pc2 := 3) (v := 0) dX12_standing_2 rfl ab_k_iconst_0 ?_
  refine ab_istore_n (pc2 := 4) (lo2 := [some (va_rf _), some (.int _), some (.int _)]) dX12_standing_3 rfl (by decide) rfl ?_
  exact ab_weak (x_X12_standing_l4 ht0 _ _ _ _ hf) (ab_leS (ab_leS (ab_leS ab_le0)))
set_option maxHeartbeats 4000000 in
set_option maxRecDepth 100000 in
theorem m_X12_standing {d : Nat} {t0 : Nat} {h : ab_HP} {r : Int32} (ht0 : (ab_shp t0).1 = 5) (hf : f_X12_standing t0 h = some r) : ab_MET mX12_standing (d + 0) 0 0 [va_rf (some t0)] h (ab_Pi r h) := ab_met (by decide +kernel) (by decide +kernel) (Nat.le_of_ble_eq_true rfl) rfl (x_X12_standing ht0 hf)
set_option maxHeartbeats 4000000 in
set_option maxRecDepth 100000 in
theorem x_X12_pair {d : Nat} {t0 : Nat} {i1 : Int32} {i2 : Int32} {h : ab_HP} {r : (Int32 × ab_HP)} (ht0 : (ab_shp t0).1 = 5) (hf : f_X12_pair t0 i1 i2 h = some r) : ab_T mX12_pair (d + 7) 0 0 0 0 0 [some (va_rf (some t0)), some (.int i1), some (.int i2), none] [] h (ab_Pi r.1 r.2) := by
  unfold f_X12_pair at hf
  refine ab_iload_n (pc2 := 1) dX12_pair_0 rfl rfl ?_
  obtain ⟨w1, ew1, hf⟩ := ab_bind hf
  refine ab_callS (pc2 := 4) (st := []) (m_X12_isShelf (d := (d + 5)) ew1) mf_X12_isShelf tw_103 tw_104 dX12_pair_1 rfl (by omega) (Nat.le_refl _) (Nat.le_refl _) rfl (Nat.le_of_ble_eq_true rfl) (fun v u hp => ?_)
  obtain ⟨rfl, rfl, z2⟩ := hp
  show ab_T _ _ _ _ 0 0 4 _ (.int _ :: []) _ _
  refine ab_if_eq (tgt := 14) (pc2 := 7) dX12_pair_4 (by decide) rfl hf (fun c3 hf => ?_) (fun c3 hf => ?_)
  · refine ab_iconst (pc2 := 15) (v := (-1)) dX12_pair_14 rfl ab_k_iconst_m1 ?_
    cases Option.some.inj hf
    exact ab_retI dX12_pair_15 (Or.inl rfl) (Nat.le_refl _) (Nat.le_refl _) ⟨rfl, rfl⟩
  · refine ab_iload_n (pc2 := 8) dX12_pair_7 rfl rfl ?_
    obtain ⟨w4, ew4, hf⟩ := ab_bind hf
    refine ab_callS (pc2 := 11) (st := []) (m_X12_areNails (d := (d + 5)) ew4) mf_X12_areNails tw_223 tw_224 dX12_pair_8 rfl (by omega) (Nat.le_refl _) (Nat.le_refl _) rfl (Nat.le_of_ble_eq_true rfl) (fun v u hp => ?_)
    obtain ⟨rfl, rfl, z5⟩ := hp
    show ab_T _ _ _ _ 0 0 11 _ (.int _ :: []) _ _
    refine ab_if_ne (tgt := 16) (pc2 := 14) dX12_pair_11 (by decide) rfl hf (fun c6 hf => ?_) (fun c6 hf => ?_)
    · refine ab_aload_n (x := _) (pc2 := 17) dX12_pair_16 rfl rfl ?_
      refine ab_iload_n (pc2 := 18) dX12_pair_17 rfl rfl ?_
      obtain ⟨w7, ew7, hf⟩ := ab_bind hf
      refine ab_callV (pc2 := 21) (st := []) rfl ht0 (by decide) (m_X12_wrongList (d := (d + 3)) ht0 ew7) mf_X12_wrongList tw_226 tw_225 ts_X12_wrongList (Or.inl (by decide +kernel)) dX12_pair_18 rfl (by omega) (Nat.le_refl _) (Nat.le_refl _) rfl (Nat.le_of_ble_eq_true rfl) (fun v u hp => ?_)
      obtain ⟨rfl, rfl⟩ := hp
      show ab_T _ _ _ _ 0 0 21 _ (.int _ :: []) _ _
      refine ab_istore_n (pc2 := 22) (lo2 := [some (va_rf _), some (.int _), some (.int _), some (.int _)]) dX12_pair_21 rfl (by decide) rfl ?_
      refine ab_iload_n (pc2 := 23) dX12_pair_22 rfl rfl ?_
      refine ab_if_eq (tgt := 28) (pc2 := 26) dX12_pair_23 (by decide) rfl hf (fun c8 hf => ?_) (fun c8 hf => ?_)
      · refine ab_aload_n (x := _) (pc2 := 29) dX12_pair_28 rfl rfl ?_
        refine ab_iload_n (pc2 := 30) dX12_pair_29 rfl rfl ?_
        refine ab_iload_n (pc2 := 31) dX12_pair_30 rfl rfl ?_
        obtain ⟨w9, ew9, hf⟩ := ab_bind hf
        refine ab_callV (pc2 := 34) (st := []) rfl ht0 (by decide) (m_X12_lays (d := (d + 5)) ht0 ew9) mf_X12_lays tw_228 tw_227 ts_X12_lays (Or.inl (by decide +kernel)) dX12_pair_31 rfl (by omega) (Nat.le_refl _) (Nat.le_refl _) rfl (Nat.le_of_ble_eq_true rfl) (fun v u hp => ?_)
        obtain ⟨rfl, rfl⟩ := hp
        show ab_T _ _ _ _ 0 0 34 _ ([]) _ _
        refine ab_aload_n (x := _) (pc2 := 35) dX12_pair_34 rfl rfl ?_
        obtain ⟨w10, ew10, hf⟩ := ab_bind hf
        refine ab_callV (pc2 := 38) (st := []) rfl ht0 (by decide) (m_X12_pairOf (d := (d + 0)) ht0 ew10) mf_X12_pairOf tw_230 tw_229 ts_X12_pairOf (Or.inl (by decide +kernel)) dX12_pair_35 rfl (by omega) (Nat.le_refl _) (Nat.le_refl _) rfl (Nat.le_of_ble_eq_true rfl) (fun v u hp => ?_)
        obtain ⟨rfl, rfl⟩ := hp
        show ab_T _ _ _ _ 0 0 38 _ ([]) _ _
        refine ab_aload_n (x := _) (pc2 := 39) dX12_pair_38 rfl rfl ?_
        refine ab_getR (pc2 := 42) rfl ht0 fa_X12_9 dX12_pair_39 rfl (fun T11 => ?_)
        refine ab_iconst (pc2 := 43) (v := 0) dX12_pair_42 rfl ab_k_iconst_0 ?_
        refine ab_aload_n (x := _) (pc2 := 44) dX12_pair_43 rfl rfl ?_
        refine ab_getI (pc2 := 47) rfl ht0 fa_X12_175 (by decide) dX12_pair_44 rfl ?_
        obtain ⟨q12, hq12, hf⟩ := ab_bind hf
        obtain ⟨b13, hf⟩ := ab_guard hf
        have hf := ab_let_e hf
        refine ab_iast (pc2 := 48) hq12 (T11 q12 hq12) (ab_in_vp b13) dX12_pair_47 rfl ?_
        refine ab_aload_n (x := _) (pc2 := 49) dX12_pair_48 rfl rfl ?_
        refine ab_getR (pc2 := 52) rfl ht0 fa_X12_9 dX12_pair_49 rfl (fun T15 => ?_)
        refine ab_iconst (pc2 := 53) (v := 1) dX12_pair_52 rfl ab_k_iconst_1 ?_
        refine ab_aload_n (x := _) (pc2 := 54) dX12_pair_53 rfl rfl ?_
        refine ab_getI (pc2 := 57) rfl ht0 fa_X12_178 (by decide) dX12_pair_54 rfl ?_
        obtain ⟨q16, hq16, hf⟩ := ab_bind hf
        obtain ⟨b17, hf⟩ := ab_guard hf
        have hf := ab_let_e hf
        refine ab_iast (pc2 := 58) hq16 (T15 q16 hq16) (ab_in_vp b17) dX12_pair_57 rfl ?_
        refine ab_aload_n (x := _) (pc2 := 59) dX12_pair_58 rfl rfl ?_
        refine ab_getR (pc2 := 62) rfl ht0 fa_X12_9 dX12_pair_59 rfl (fun T19 => ?_)
        refine ab_iconst (pc2 := 63) (v := 2) dX12_pair_62 rfl ab_k_iconst_2 ?_
        refine ab_dup2 (pc2 := 64) dX12_pair_63 rfl rfl (ab_rf1 _) ?_
        obtain ⟨q20, hq20, hf⟩ := ab_bind hf
        obtain ⟨b21, hf⟩ := ab_guard hf
        refine ab_iald (pc2 := 65) hq20 (T19 q20 hq20) (ab_in_vp b21) dX12_pair_64 rfl ?_
        refine ab_iconst (pc2 := 66) (v := 2) dX12_pair_65 rfl ab_k_iconst_2 ?_
        refine ab_iadd (pc2 := 67) dX12_pair_66 rfl ?_
        obtain ⟨b22, hf⟩ := ab_guard hf
        have hf := ab_let_e hf
        refine ab_iast (pc2 := 68) hq20 (T19 q20 hq20) (ab_in_vp b22) dX12_pair_67 rfl ?_
        refine ab_aload_n (x := _) (pc2 := 69) dX12_pair_68 rfl rfl ?_
        obtain ⟨w24, ew24, hf⟩ := ab_bind hf
        refine ab_callV (pc2 := 72) (st := []) rfl ht0 (by decide) (m_X12_standing (d := (d + 6)) ht0 ew24) mf_X12_standing tw_232 tw_231 ts_X12_standing (Or.inl (by decide +kernel)) dX12_pair_69 rfl (by omega) (Nat.le_refl _) (Nat.le_refl _) rfl (Nat.le_of_ble_eq_true rfl) (fun v u hp => ?_)
        obtain ⟨rfl, rfl⟩ := hp
        show ab_T _ _ _ _ 0 0 72 _ (.int _ :: []) _ _
        cases Option.some.inj hf
        exact ab_retI dX12_pair_72 (Or.inl rfl) (Nat.le_refl _) (Nat.le_refl _) ⟨rfl, rfl⟩
      · refine ab_iload_n (pc2 := 27) dX12_pair_26 rfl rfl ?_
        cases Option.some.inj hf
        exact ab_retI dX12_pair_27 (Or.inl rfl) (Nat.le_refl _) (Nat.le_refl _) ⟨rfl, rfl⟩
    · refine ab_iconst (pc2 := 15) (v := (-1)) dX12_pair_14 rfl ab_k_iconst_m1 ?_
      cases Option.some.inj hf
      exact ab_retI dX12_pair_15 (Or.inl rfl) (Nat.le_refl _) (Nat.le_refl _) ⟨rfl, rfl⟩
set_option maxHeartbeats 4000000 in
set_option maxRecDepth 100000 in
theorem m_X12_pair {d : Nat} {t0 : Nat} {i1 : Int32} {i2 : Int32} {h : ab_HP} {r : (Int32 × ab_HP)} (ht0 : (ab_shp t0).1 = 5) (hf : f_X12_pair t0 i1 i2 h = some r) : ab_MET mX12_pair (d + 7) 0 0 [va_rf (some t0), .int i1, .int i2] h (ab_Pi r.1 r.2) := ab_met (by decide +kernel) (by decide +kernel) (Nat.le_of_ble_eq_true rfl) rfl (x_X12_pair ht0 hf)
set_option maxHeartbeats 4000000 in
set_option maxRecDepth 100000 in
theorem x_X12_even_l57 {d : Nat} {t0 : Nat} {r : (Int32 × ab_HP)} (ht0 : (ab_shp t0).1 = 5) : ∀ (n : Nat) (i3 : Int32) (i4 : Int32) (h : ab_HP), f_X12_even_l57 t0 n i3 i4 h = some r → ab_T mX12_even (d + 4) 0 0 0 0 57 [some (va_rf (some t0)), none, none, some (.int i3), some (.int i4)] [] h (ab_Pi r.1 r.2) := by
  intro n
  induction n with
  | zero =>
    intro i3 i4 h hf
    rw [f_X12_even_l57] at hf
    cases hf
  | succ n ih =>
    intro i3 i4 h hf
    rw [f_X12_even_l57] at hf
    refine ab_iload (pc2 := 59) dX12_even_57 rfl rfl ?_
    refine ab_aload_n (x := _) (pc2 := 60) dX12_even_59 rfl rfl ?_
    refine ab_getI (pc2 := 63) rfl ht0 fa_X12_166 (by decide) dX12_even_60 rfl ?_
    refine ab_icmp_ge (tgt := 90) (pc2 := 66) dX12_even_63 (by decide) rfl hf (fun c18 hf => ?_) (fun c18 hf => ?_)
    · refine ab_iload_n (pc2 := 91) dX12_even_90 rfl rfl ?_
      cases Option.some.inj hf
      exact ab_retI dX12_even_91 (Or.inl rfl) (Nat.le_refl _) (Nat.le_refl _) ⟨rfl, rfl⟩
    · refine ab_iload_n (pc2 := 67) dX12_even_66 rfl rfl ?_
      refine ab_aload_n (x := _) (pc2 := 68) dX12_even_67 rfl rfl ?_
      refine ab_getR (pc2 := 71) rfl ht0 fa_X12_49 dX12_even_68 rfl (fun T19 => ?_)
      refine ab_iload (pc2 := 73) dX12_even_71 rfl rfl ?_
      obtain ⟨q20, hq20, hf⟩ := ab_bind hf
      obtain ⟨b21, hf⟩ := ab_guard hf
      refine ab_iald (pc2 := 74) hq20 (T19 q20 hq20) (ab_in_vp b21) dX12_even_73 rfl ?_
      refine ab_if_eq (tgt := 81) (pc2 := 77) dX12_even_74 (by decide) rfl hf (fun c22 hf => ?_) (fun c22 hf => ?_)
      · refine ab_iconst (pc2 := 82) (v := 0) dX12_even_81 rfl ab_k_iconst_0 ?_
        refine ab_iadd (pc2 := 83) dX12_even_82 rfl ?_
        refine ab_istore_n (pc2 := 84) (lo2 := [some (va_rf _), none, none, some (.int _), some (.int _)]) dX12_even_83 rfl (by decide) rfl ?_
        refine ab_iinc (pc2 := 87) (v := _ + 1) (lo2 := [some (va_rf _), none, none, some (.int _), some (.int _)]) dX12_even_84 rfl rfl rfl (by decide) rfl ?_
        refine ab_goto (tgt := 57) dX12_even_87 (by decide) ?_
        exact ab_weak (ih _ _ _ hf) (ab_leS (ab_leN (ab_leN (ab_leS (ab_leS ab_le0)))))
      · refine ab_iconst (pc2 := 78) (v := 1) dX12_even_77 rfl ab_k_iconst_1 ?_
        refine ab_goto (tgt := 82) dX12_even_78 (by decide) ?_
        refine ab_iadd (pc2 := 83) dX12_even_82 rfl ?_
        refine ab_istore_n (pc2 := 84) (lo2 := [some (va_rf _), none, none, some (.int _), some (.int _)]) dX12_even_83 rfl (by decide) rfl ?_
        refine ab_iinc (pc2 := 87) (v := _ + 1) (lo2 := [some (va_rf _), none, none, some (.int _), some (.int _)]) dX12_even_84 rfl rfl rfl (by decide) rfl ?_
        refine ab_goto (tgt := 57) dX12_even_87 (by decide) ?_
        exact ab_weak (ih _ _ _ hf) (ab_leS (ab_leN (ab_leN (ab_leS (ab_leS ab_le0)))))
set_option maxHeartbeats 4000000 in
set_option maxRecDepth 100000 in
theorem x_X12_even {d : Nat} {t0 : Nat} {i1 : Int32} {h : ab_HP} {r : (Int32 × ab_HP)} (ht0 : (ab_shp t0).1 = 5) (hf : f_X12_even t0 i1 h = some r) : ab_T mX12_even (d + 4) 0 0 0 0 0 [some (va_rf (some t0)), some (.int i1), none, none, none] [] h (ab_Pi r.1 r.2) := by
  unfold f_X12_even at hf
  refine ab_aload_n (x := _) (pc2 := 1) dX12_even_0 rfl rfl ?_
  refine ab_iload_n (pc2 := 2) dX12_even_1 rfl rfl ?_
  obtain ⟨w1, ew1, hf⟩ := ab_bind hf
  refine ab_callV (pc2 := 5) (st := []) rfl ht0 (by decide) (m_X12_wrongList (d := (d + 0)) ht0 ew1) mf_X12_wrongList tw_226 tw_225 ts_X12_wrongList (Or.inl (by decide +kernel)) dX12_even_2 rfl (by omega) (Nat.le_refl _) (Nat.le_refl _) rfl (Nat.le_of_ble_eq_true rfl) (fun v u hp => ?_)
  obtain ⟨rfl, rfl⟩ := hp
  show ab_T _ _ _ _ 0 0 5 _ (.int _ :: []) _ _
  refine ab_istore_n (pc2 := 6) (lo2 := [some (va_rf _), some (.int _), some (.int _), none, none]) dX12_even_5 rfl (by decide) rfl ?_
  refine ab_iload_n (pc2 := 7) dX12_even_6 rfl rfl ?_
  refine ab_if_eq (tgt := 12) (pc2 := 10) dX12_even_7 (by decide) rfl hf (fun c2 hf => ?_) (fun c2 hf => ?_)
  · refine ab_aload_n (x := _) (pc2 := 13) dX12_even_12 rfl rfl ?_
    refine ab_iload_n (pc2 := 14) dX12_even_13 rfl rfl ?_
    refine ab_iconst (pc2 := 15) (v := 0) dX12_even_14 rfl ab_k_iconst_0 ?_
    obtain ⟨w3, ew3, hf⟩ := ab_bind hf
    refine ab_callV (pc2 := 18) (st := []) rfl ht0 (by decide) (m_X12_lays (d := (d + 2)) ht0 ew3) mf_X12_lays tw_228 tw_227 ts_X12_lays (Or.inl (by decide +kernel)) dX12_even_15 rfl (by omega) (Nat.le_refl _) (Nat.le_refl _) rfl (Nat.le_of_ble_eq_true rfl) (fun v u hp => ?_)
    obtain ⟨rfl, rfl⟩ := hp
    show ab_T _ _ _ _ 0 0 18 _ ([]) _ _
    refine ab_aload_n (x := _) (pc2 := 19) dX12_even_18 rfl rfl ?_
    obtain ⟨w4, ew4, hf⟩ := ab_bind hf
    refine ab_callV (pc2 := 22) (st := []) rfl ht0 (by decide) (m_X12_evenYear (d := (d + 0)) ht0 ew4) mf_X12_evenYear tw_220 tw_219 ts_X12_evenYear (Or.inl (by decide +kernel)) dX12_even_19 rfl (by omega) (Nat.le_refl _) (Nat.le_refl _) rfl (Nat.le_of_ble_eq_true rfl) (fun v u hp => ?_)
    obtain ⟨rfl, rfl⟩ := hp
    show ab_T _ _ _ _ 0 0 22 _ ([]) _ _
    refine ab_aload_n (x := _) (pc2 := 23) dX12_even_22 rfl rfl ?_
    refine ab_getR (pc2 := 26) rfl ht0 fa_X12_9 dX12_even_23 rfl (fun T5 => ?_)
    refine ab_iconst (pc2 := 27) (v := 0) dX12_even_26 rfl ab_k_iconst_0 ?_
    refine ab_aload_n (x := _) (pc2 := 28) dX12_even_27 rfl rfl ?_
    refine ab_getI (pc2 := 31) rfl ht0 fa_X12_175 (by decide) dX12_even_28 rfl ?_
    obtain ⟨q6, hq6, hf⟩ := ab_bind hf
    obtain ⟨b7, hf⟩ := ab_guard hf
    have hf := ab_let_e hf
    refine ab_iast (pc2 := 32) hq6 (T5 q6 hq6) (ab_in_vp b7) dX12_even_31 rfl ?_
    refine ab_aload_n (x := _) (pc2 := 33) dX12_even_32 rfl rfl ?_
    refine ab_getR (pc2 := 36) rfl ht0 fa_X12_9 dX12_even_33 rfl (fun T9 => ?_)
    refine ab_iconst (pc2 := 37) (v := 1) dX12_even_36 rfl ab_k_iconst_1 ?_
    refine ab_aload_n (x := _) (pc2 := 38) dX12_even_37 rfl rfl ?_
    refine ab_getI (pc2 := 41) rfl ht0 fa_X12_178 (by decide) dX12_even_38 rfl ?_
    obtain ⟨q10, hq10, hf⟩ := ab_bind hf
    obtain ⟨b11, hf⟩ := ab_guard hf
    have hf := ab_let_e hf
    refine ab_iast (pc2 := 42) hq10 (T9 q10 hq10) (ab_in_vp b11) dX12_even_41 rfl ?_
    refine ab_aload_n (x := _) (pc2 := 43) dX12_even_42 rfl rfl ?_
    refine ab_getR (pc2 := 46) rfl ht0 fa_X12_9 dX12_even_43 rfl (fun T13 => ?_)
    refine ab_iconst (pc2 := 47) (v := 2) dX12_even_46 rfl ab_k_iconst_2 ?_
    refine ab_dup2 (pc2 := 48) dX12_even_47 rfl rfl (ab_rf1 _) ?_
    obtain ⟨q14, hq14, hf⟩ := ab_bind hf
    obtain ⟨b15, hf⟩ := ab_guard hf
    refine ab_iald (pc2 := 49) hq14 (T13 q14 hq14) (ab_in_vp b15) dX12_even_48 rfl ?_
    refine ab_iconst (pc2 := 50) (v := 1) dX12_even_49 rfl ab_k_iconst_1 ?_
    refine ab_iadd (pc2 := 51) dX12_even_50 rfl ?_
    obtain ⟨b16, hf⟩ := ab_guard hf
    have hf := ab_let_e hf
    refine ab_iast (pc2 := 52) hq14 (T13 q14 hq14) (ab_in_vp b16) dX12_even_51 rfl ?_
    refine ab_iconst (pc2 := 53) (v := 0) dX12_even_52 rfl ab_k_iconst_0 ?_
    refine ab_istore_n (pc2 := 54) (lo2 := [some (va_rf _), some (.int _), some (.int _), some (.int _), none]) dX12_even_53 rfl (by decide) rfl ?_
    refine ab_iconst (pc2 := 55) (v := 0) dX12_even_54 rfl ab_k_iconst_0 ?_
    refine ab_istore (pc2 := 57) (lo2 := [some (va_rf _), some (.int _), some (.int _), some (.int _), some (.int _)]) dX12_even_55 rfl (by decide) rfl ?_
    exact ab_weak (x_X12_even_l57 ht0 _ _ _ _ hf) (ab_leS (ab_leN (ab_leN (ab_leS (ab_leS ab_le0)))))
  · refine ab_iload_n (pc2 := 11) dX12_even_10 rfl rfl ?_
    cases Option.some.inj hf
    exact ab_retI dX12_even_11 (Or.inl rfl) (Nat.le_refl _) (Nat.le_refl _) ⟨rfl, rfl⟩
set_option maxHeartbeats 4000000 in
set_option maxRecDepth 100000 in
theorem m_X12_even {d : Nat} {t0 : Nat} {i1 : Int32} {h : ab_HP} {r : (Int32 × ab_HP)} (ht0 : (ab_shp t0).1 = 5) (hf : f_X12_even t0 i1 h = some r) : ab_MET mX12_even (d + 4) 0 0 [va_rf (some t0), .int i1] h (ab_Pi r.1 r.2) := ab_met (by decide +kernel) (by decide +kernel) (Nat.le_of_ble_eq_true rfl) rfl (x_X12_even ht0 hf)
set_option maxHeartbeats 4000000 in
set_option maxRecDepth 100000 in
theorem x_X12_isMark {d : Nat} {i0 : Int32} {h : ab_HP} {r : Int32}  (hf : f_X12_isMark i0 h = some r) : ab_T mX12_isMark (d + 1) 0 0 0 0 0 [some (.int i0)] [] h (ab_Pb r h) := by
  unfold f_X12_isMark at hf
  refine ab_iload_n (pc2 := 1) dX12_isMark_0 rfl rfl ?_
  refine ab_i2l (pc2 := 2) dX12_isMark_1 rfl ?_
  refine ab_lconst (pc2 := 3) (v := 0) dX12_isMark_2 rfl rfl ?_
  refine ab_ldc2 (pc2 := 6) (v := 9) dX12_isMark_3 rfl tw_235 ?_
  obtain ⟨w1, ew1, hf⟩ := ab_bind hf
  refine ab_callS (pc2 := 9) (st := []) (m_X12_isIn (d := (d + 0)) ew1) mf_X12_isIn tw_101 tw_102 dX12_isMark_6 rfl (by omega) (Nat.le_refl _) (Nat.le_refl _) rfl (Nat.le_of_ble_eq_true rfl) (fun v u hp => ?_)
  obtain ⟨rfl, rfl, z2⟩ := hp
  show ab_T _ _ _ _ 0 0 9 _ (.int _ :: []) _ _
  cases Option.some.inj hf
  exact ab_retI dX12_isMark_9 (Or.inr ⟨rfl, z2⟩) (Nat.le_refl _) (Nat.le_refl _) ⟨rfl, rfl, z2⟩
set_option maxHeartbeats 4000000 in
set_option maxRecDepth 100000 in
theorem m_X12_isMark {d : Nat} {i0 : Int32} {h : ab_HP} {r : Int32}  (hf : f_X12_isMark i0 h = some r) : ab_MET mX12_isMark (d + 1) 0 0 [.int i0] h (ab_Pb r h) := ab_met (by decide +kernel) (by decide +kernel) (Nat.le_of_ble_eq_true rfl) rfl (x_X12_isMark  hf)
set_option maxHeartbeats 4000000 in
set_option maxRecDepth 100000 in
theorem x_X12_lasts {d : Nat} {t0 : Nat} {i1 : Int32} {i2 : Int32} {i3 : Int32} {h : ab_HP} {r : (Int32 × ab_HP)} (ht0 : (ab_shp t0).1 = 5) (hf : f_X12_lasts t0 i1 i2 i3 h = some r) : ab_T mX12_lasts (d + 7) 0 0 0 0 0 [some (va_rf (some t0)), some (.int i1), some (.int i2), some (.int i3), none] [] h (ab_Pi r.1 r.2) := by
  unfold f_X12_lasts at hf
  refine ab_iload_n (pc2 := 1) dX12_lasts_0 rfl rfl ?_
  obtain ⟨w1, ew1, hf⟩ := ab_bind hf
  refine ab_callS (pc2 := 4) (st := []) (m_X12_isShelf (d := (d + 5)) ew1) mf_X12_isShelf tw_103 tw_104 dX12_lasts_1 rfl (by omega) (Nat.le_refl _) (Nat.le_refl _) rfl (Nat.le_of_ble_eq_true rfl) (fun v u hp => ?_)
  obtain ⟨rfl, rfl, z2⟩ := hp
  show ab_T _ _ _ _ 0 0 4 _ (.int _ :: []) _ _
  refine ab_if_eq (tgt := 21) (pc2 := 7) dX12_lasts_4 (by decide) rfl hf (fun c3 hf => ?_) (fun c3 hf => ?_)
  · refine ab_iconst (pc2 := 22) (v := (-1)) dX12_lasts_21 rfl ab_k_iconst_m1 ?_
    cases Option.some.inj hf
    exact ab_retI dX12_lasts_22 (Or.inl rfl) (Nat.le_refl _) (Nat.le_refl _) ⟨rfl, rfl⟩
  · refine ab_iload_n (pc2 := 8) dX12_lasts_7 rfl rfl ?_
    obtain ⟨w4, ew4, hf⟩ := ab_bind hf
    refine ab_callS (pc2 := 11) (st := []) (m_X12_areNails (d := (d + 5)) ew4) mf_X12_areNails tw_223 tw_224 dX12_lasts_8 rfl (by omega) (Nat.le_refl _) (Nat.le_refl _) rfl (Nat.le_of_ble_eq_true rfl) (fun v u hp => ?_)
    obtain ⟨rfl, rfl, z5⟩ := hp
    show ab_T _ _ _ _ 0 0 11 _ (.int _ :: []) _ _
    refine ab_if_eq (tgt := 21) (pc2 := 14) dX12_lasts_11 (by decide) rfl hf (fun c6 hf => ?_) (fun c6 hf => ?_)
    · refine ab_iconst (pc2 := 22) (v := (-1)) dX12_lasts_21 rfl ab_k_iconst_m1 ?_
      cases Option.some.inj hf
      exact ab_retI dX12_lasts_22 (Or.inl rfl) (Nat.le_refl _) (Nat.le_refl _) ⟨rfl, rfl⟩
    · refine ab_iload_n (pc2 := 15) dX12_lasts_14 rfl rfl ?_
      obtain ⟨w7, ew7, hf⟩ := ab_bind hf
      refine ab_callS (pc2 := 18) (st := []) (m_X12_isMark (d := (d + 5)) ew7) mf_X12_isMark tw_236 tw_237 dX12_lasts_15 rfl (by omega) (Nat.le_refl _) (Nat.le_refl _) rfl (Nat.le_of_ble_eq_true rfl) (fun v u hp => ?_)
      obtain ⟨rfl, rfl, z8⟩ := hp
      show ab_T _ _ _ _ 0 0 18 _ (.int _ :: []) _ _
      refine ab_if_ne (tgt := 23) (pc2 := 21) dX12_lasts_18 (by decide) rfl hf (fun c9 hf => ?_) (fun c9 hf => ?_)
      · refine ab_aload_n (x := _) (pc2 := 24) dX12_lasts_23 rfl rfl ?_
        refine ab_iload_n (pc2 := 25) dX12_lasts_24 rfl rfl ?_
        obtain ⟨w10, ew10, hf⟩ := ab_bind hf
        refine ab_callV (pc2 := 28) (st := []) rfl ht0 (by decide) (m_X12_wrongList (d := (d + 3)) ht0 ew10) mf_X12_wrongList tw_226 tw_225 ts_X12_wrongList (Or.inl (by decide +kernel)) dX12_lasts_25 rfl (by omega) (Nat.le_refl _) (Nat.le_refl _) rfl (Nat.le_of_ble_eq_true rfl) (fun v u hp => ?_)
        obtain ⟨rfl, rfl⟩ := hp
        show ab_T _ _ _ _ 0 0 28 _ (.int _ :: []) _ _
        refine ab_istore (pc2 := 30) (lo2 := [some (va_rf _), some (.int _), some (.int _), some (.int _), some (.int _)]) dX12_lasts_28 rfl (by decide) rfl ?_
        refine ab_iload (pc2 := 32) dX12_lasts_30 rfl rfl ?_
        refine ab_if_eq (tgt := 38) (pc2 := 35) dX12_lasts_32 (by decide) rfl hf (fun c11 hf => ?_) (fun c11 hf => ?_)
        · refine ab_aload_n (x := _) (pc2 := 39) dX12_lasts_38 rfl rfl ?_
          refine ab_iload_n (pc2 := 40) dX12_lasts_39 rfl rfl ?_
          refine ab_iload_n (pc2 := 41) dX12_lasts_40 rfl rfl ?_
          obtain ⟨w12, ew12, hf⟩ := ab_bind hf
          refine ab_callV (pc2 := 44) (st := []) rfl ht0 (by decide) (m_X12_lays (d := (d + 5)) ht0 ew12) mf_X12_lays tw_228 tw_227 ts_X12_lays (Or.inl (by decide +kernel)) dX12_lasts_41 rfl (by omega) (Nat.le_refl _) (Nat.le_refl _) rfl (Nat.le_of_ble_eq_true rfl) (fun v u hp => ?_)
          obtain ⟨rfl, rfl⟩ := hp
          show ab_T _ _ _ _ 0 0 44 _ ([]) _ _
          refine ab_aload_n (x := _) (pc2 := 45) dX12_lasts_44 rfl rfl ?_
          obtain ⟨w13, ew13, hf⟩ := ab_bind hf
          refine ab_callV (pc2 := 48) (st := []) rfl ht0 (by decide) (m_X12_pairOf (d := (d + 0)) ht0 ew13) mf_X12_pairOf tw_230 tw_229 ts_X12_pairOf (Or.inl (by decide +kernel)) dX12_lasts_45 rfl (by omega) (Nat.le_refl _) (Nat.le_refl _) rfl (Nat.le_of_ble_eq_true rfl) (fun v u hp => ?_)
          obtain ⟨rfl, rfl⟩ := hp
          show ab_T _ _ _ _ 0 0 48 _ ([]) _ _
          refine ab_aload_n (x := _) (pc2 := 49) dX12_lasts_48 rfl rfl ?_
          refine ab_getI (pc2 := 52) rfl ht0 fa_X12_175 (by decide) dX12_lasts_49 rfl ?_
          refine ab_iload_n (pc2 := 53) dX12_lasts_52 rfl rfl ?_
          refine ab_ishr (pc2 := 54) dX12_lasts_53 rfl ?_
          refine ab_iconst (pc2 := 55) (v := 1) dX12_lasts_54 rfl ab_k_iconst_1 ?_
          refine ab_iand (pc2 := 56) dX12_lasts_55 rfl ?_
          cases Option.some.inj hf
          exact ab_retI dX12_lasts_56 (Or.inl rfl) (Nat.le_refl _) (Nat.le_refl _) ⟨rfl, rfl⟩
        · refine ab_iload (pc2 := 37) dX12_lasts_35 rfl rfl ?_
          cases Option.some.inj hf
          exact ab_retI dX12_lasts_37 (Or.inl rfl) (Nat.le_refl _) (Nat.le_refl _) ⟨rfl, rfl⟩
      · refine ab_iconst (pc2 := 22) (v := (-1)) dX12_lasts_21 rfl ab_k_iconst_m1 ?_
        cases Option.some.inj hf
        exact ab_retI dX12_lasts_22 (Or.inl rfl) (Nat.le_refl _) (Nat.le_refl _) ⟨rfl, rfl⟩
set_option maxHeartbeats 4000000 in
set_option maxRecDepth 100000 in
theorem m_X12_lasts {d : Nat} {t0 : Nat} {i1 : Int32} {i2 : Int32} {i3 : Int32} {h : ab_HP} {r : (Int32 × ab_HP)} (ht0 : (ab_shp t0).1 = 5) (hf : f_X12_lasts t0 i1 i2 i3 h = some r) : ab_MET mX12_lasts (d + 7) 0 0 [va_rf (some t0), .int i1, .int i2, .int i3] h (ab_Pi r.1 r.2) := ab_met (by decide +kernel) (by decide +kernel) (Nat.le_of_ble_eq_true rfl) rfl (x_X12_lasts ht0 hf)
set_option maxHeartbeats 4000000 in
set_option maxRecDepth 100000 in
theorem x_X12_why {d : Nat} {t0 : Nat} {i1 : Int32} {i2 : Int32} {i3 : Int32} {h : ab_HP} {r : (Int32 × ab_HP)} (ht0 : (ab_shp t0).1 = 5) (hf : f_X12_why t0 i1 i2 i3 h = some r) : ab_T mX12_why (d + 7) 0 0 0 0 0 [some (va_rf (some t0)), some (.int i1), some (.int i2), some (.int i3), none] [] h (ab_Pi r.1 r.2) := by
  unfold f_X12_why at hf
  refine ab_iload_n (pc2 := 1) dX12_why_0 rfl rfl ?_
  obtain ⟨w1, ew1, hf⟩ := ab_bind hf
  refine ab_callS (pc2 := 4) (st := []) (m_X12_isShelf (d := (d + 5)) ew1) mf_X12_isShelf tw_103 tw_104 dX12_why_1 rfl (by omega) (Nat.le_refl _) (Nat.le_refl _) rfl (Nat.le_of_ble_eq_true rfl) (fun v u hp => ?_)
  obtain ⟨rfl, rfl, z2⟩ := hp
  show ab_T _ _ _ _ 0 0 4 _ (.int _ :: []) _ _
  refine ab_if_eq (tgt := 14) (pc2 := 7) dX12_why_4 (by decide) rfl hf (fun c3 hf => ?_) (fun c3 hf => ?_)
  · refine ab_iconst (pc2 := 15) (v := (-1)) dX12_why_14 rfl ab_k_iconst_m1 ?_
    cases Option.some.inj hf
    exact ab_retI dX12_why_15 (Or.inl rfl) (Nat.le_refl _) (Nat.le_refl _) ⟨rfl, rfl⟩
  · refine ab_iload_n (pc2 := 8) dX12_why_7 rfl rfl ?_
    obtain ⟨w4, ew4, hf⟩ := ab_bind hf
    refine ab_callS (pc2 := 11) (st := []) (m_X12_areNails (d := (d + 5)) ew4) mf_X12_areNails tw_223 tw_224 dX12_why_8 rfl (by omega) (Nat.le_refl _) (Nat.le_refl _) rfl (Nat.le_of_ble_eq_true rfl) (fun v u hp => ?_)
    obtain ⟨rfl, rfl, z5⟩ := hp
    show ab_T _ _ _ _ 0 0 11 _ (.int _ :: []) _ _
    refine ab_if_ne (tgt := 16) (pc2 := 14) dX12_why_11 (by decide) rfl hf (fun c6 hf => ?_) (fun c6 hf => ?_)
    · refine ab_aload_n (x := _) (pc2 := 17) dX12_why_16 rfl rfl ?_
      refine ab_iload_n (pc2 := 18) dX12_why_17 rfl rfl ?_
      obtain ⟨w7, ew7, hf⟩ := ab_bind hf
      refine ab_callV (pc2 := 21) (st := []) rfl ht0 (by decide) (m_X12_wrongList (d := (d + 3)) ht0 ew7) mf_X12_wrongList tw_226 tw_225 ts_X12_wrongList (Or.inl (by decide +kernel)) dX12_why_18 rfl (by omega) (Nat.le_refl _) (Nat.le_refl _) rfl (Nat.le_of_ble_eq_true rfl) (fun v u hp => ?_)
      obtain ⟨rfl, rfl⟩ := hp
      show ab_T _ _ _ _ 0 0 21 _ (.int _ :: []) _ _
      refine ab_istore (pc2 := 23) (lo2 := [some (va_rf _), some (.int _), some (.int _), some (.int _), some (.int _)]) dX12_why_21 rfl (by decide) rfl ?_
      refine ab_iload (pc2 := 25) dX12_why_23 rfl rfl ?_
      refine ab_if_eq (tgt := 31) (pc2 := 28) dX12_why_25 (by decide) rfl hf (fun c8 hf => ?_) (fun c8 hf => ?_)
      · refine ab_iload_n (pc2 := 32) dX12_why_31 rfl rfl ?_
        refine ab_i2l (pc2 := 33) dX12_why_32 rfl ?_
        refine ab_lconst (pc2 := 34) (v := 0) dX12_why_33 rfl rfl ?_
        refine ab_aload_n (x := _) (pc2 := 35) dX12_why_34 rfl rfl ?_
        refine ab_getR (pc2 := 38) rfl ht0 fa_X12_25 dX12_why_35 rfl (fun T9 => ?_)
        refine ab_iload_n (pc2 := 39) dX12_why_38 rfl rfl ?_
        obtain ⟨q10, hq10, hf⟩ := ab_bind hf
        obtain ⟨b11, hf⟩ := ab_guard hf
        refine ab_iald (pc2 := 40) hq10 (T9 q10 hq10) (ab_in_vp b11) dX12_why_39 rfl ?_
        refine ab_iconst (pc2 := 41) (v := 1) dX12_why_40 rfl ab_k_iconst_1 ?_
        refine ab_isub (pc2 := 42) dX12_why_41 rfl ?_
        refine ab_i2l (pc2 := 43) dX12_why_42 rfl ?_
        obtain ⟨w12, ew12, hf⟩ := ab_bind hf
        refine ab_callS (pc2 := 46) (st := []) (m_X12_isIn (d := (d + 6)) ew12) mf_X12_isIn tw_101 tw_102 dX12_why_43 rfl (by omega) (Nat.le_refl _) (Nat.le_refl _) rfl (Nat.le_of_ble_eq_true rfl) (fun v u hp => ?_)
        obtain ⟨rfl, rfl, z13⟩ := hp
        show ab_T _ _ _ _ 0 0 46 _ (.int _ :: []) _ _
        refine ab_if_ne (tgt := 52) (pc2 := 49) dX12_why_46 (by decide) rfl hf (fun c14 hf => ?_) (fun c14 hf => ?_)
        · refine ab_aload_n (x := _) (pc2 := 53) dX12_why_52 rfl rfl ?_
          refine ab_iload_n (pc2 := 54) dX12_why_53 rfl rfl ?_
          refine ab_iload_n (pc2 := 55) dX12_why_54 rfl rfl ?_
          obtain ⟨w15, ew15, hf⟩ := ab_bind hf
          refine ab_callV (pc2 := 58) (st := []) rfl ht0 (by decide) (m_X12_lays (d := (d + 5)) ht0 ew15) mf_X12_lays tw_228 tw_227 ts_X12_lays (Or.inl (by decide +kernel)) dX12_why_55 rfl (by omega) (Nat.le_refl _) (Nat.le_refl _) rfl (Nat.le_of_ble_eq_true rfl) (fun v u hp => ?_)
          obtain ⟨rfl, rfl⟩ := hp
          show ab_T _ _ _ _ 0 0 58 _ ([]) _ _
          refine ab_aload_n (x := _) (pc2 := 59) dX12_why_58 rfl rfl ?_
          obtain ⟨w16, ew16, hf⟩ := ab_bind hf
          refine ab_callV (pc2 := 62) (st := []) rfl ht0 (by decide) (m_X12_pairOf (d := (d + 0)) ht0 ew16) mf_X12_pairOf tw_230 tw_229 ts_X12_pairOf (Or.inl (by decide +kernel)) dX12_why_59 rfl (by omega) (Nat.le_refl _) (Nat.le_refl _) rfl (Nat.le_of_ble_eq_true rfl) (fun v u hp => ?_)
          obtain ⟨rfl, rfl⟩ := hp
          show ab_T _ _ _ _ 0 0 62 _ ([]) _ _
          refine ab_aload_n (x := _) (pc2 := 63) dX12_why_62 rfl rfl ?_
          refine ab_getR (pc2 := 66) rfl ht0 fa_X12_49 dX12_why_63 rfl (fun T17 => ?_)
          refine ab_iload_n (pc2 := 67) dX12_why_66 rfl rfl ?_
          obtain ⟨q18, hq18, hf⟩ := ab_bind hf
          obtain ⟨b19, hf⟩ := ab_guard hf
          refine ab_iald (pc2 := 68) hq18 (T17 q18 hq18) (ab_in_vp b19) dX12_why_67 rfl ?_
          cases Option.some.inj hf
          exact ab_retI dX12_why_68 (Or.inl rfl) (Nat.le_refl _) (Nat.le_refl _) ⟨rfl, rfl⟩
        · refine ab_bipush (pc2 := 51) (v := (-13)) dX12_why_49 rfl ab_k_bipush_m13 ?_
          cases Option.some.inj hf
          exact ab_retI dX12_why_51 (Or.inl rfl) (Nat.le_refl _) (Nat.le_refl _) ⟨rfl, rfl⟩
      · refine ab_iload (pc2 := 30) dX12_why_28 rfl rfl ?_
        cases Option.some.inj hf
        exact ab_retI dX12_why_30 (Or.inl rfl) (Nat.le_refl _) (Nat.le_refl _) ⟨rfl, rfl⟩
    · refine ab_iconst (pc2 := 15) (v := (-1)) dX12_why_14 rfl ab_k_iconst_m1 ?_
      cases Option.some.inj hf
      exact ab_retI dX12_why_15 (Or.inl rfl) (Nat.le_refl _) (Nat.le_refl _) ⟨rfl, rfl⟩
set_option maxHeartbeats 4000000 in
set_option maxRecDepth 100000 in
theorem m_X12_why {d : Nat} {t0 : Nat} {i1 : Int32} {i2 : Int32} {i3 : Int32} {h : ab_HP} {r : (Int32 × ab_HP)} (ht0 : (ab_shp t0).1 = 5) (hf : f_X12_why t0 i1 i2 i3 h = some r) : ab_MET mX12_why (d + 7) 0 0 [va_rf (some t0), .int i1, .int i2, .int i3] h (ab_Pi r.1 r.2) := ab_met (by decide +kernel) (by decide +kernel) (Nat.le_of_ble_eq_true rfl) rfl (x_X12_why ht0 hf)
set_option maxHeartbeats 4000000 in
set_option maxRecDepth 100000 in
theorem x_X12_behind {d : Nat} {t0 : Nat} {i1 : Int32} {i2 : Int32} {i3 : Int32} {h : ab_HP} {r : (Int32 × ab_HP)} (ht0 : (ab_shp t0).1 = 5) (hf : f_X12_behind t0 i1 i2 i3 h = some r) : ab_T mX12_behind (d + 7) 0 0 0 0 0 [some (va_rf (some t0)), some (.int i1), some (.int i2), some (.int i3), none] [] h (ab_Pi r.1 r.2) := by
  unfold f_X12_behind at hf
  refine ab_iload_n (pc2 := 1) dX12_behind_0 rfl rfl ?_
  obtain ⟨w1, ew1, hf⟩ := ab_bind hf
  refine ab_callS (pc2 := 4) (st := []) (m_X12_isShelf (d := (d + 5)) ew1) mf_X12_isShelf tw_103 tw_104 dX12_behind_1 rfl (by omega) (Nat.le_refl _) (Nat.le_refl _) rfl (Nat.le_of_ble_eq_true rfl) (fun v u hp => ?_)
  obtain ⟨rfl, rfl, z2⟩ := hp
  show ab_T _ _ _ _ 0 0 4 _ (.int _ :: []) _ _
  refine ab_if_eq (tgt := 26) (pc2 := 7) dX12_behind_4 (by decide) rfl hf (fun c3 hf => ?_) (fun c3 hf => ?_)
  · refine ab_iconst (pc2 := 27) (v := (-1)) dX12_behind_26 rfl ab_k_iconst_m1 ?_
    cases Option.some.inj hf
    exact ab_retI dX12_behind_27 (Or.inl rfl) (Nat.le_refl _) (Nat.le_refl _) ⟨rfl, rfl⟩
  · refine ab_iload_n (pc2 := 8) dX12_behind_7 rfl rfl ?_
    obtain ⟨w4, ew4, hf⟩ := ab_bind hf
    refine ab_callS (pc2 := 11) (st := []) (m_X12_areNails (d := (d + 5)) ew4) mf_X12_areNails tw_223 tw_224 dX12_behind_8 rfl (by omega) (Nat.le_refl _) (Nat.le_refl _) rfl (Nat.le_of_ble_eq_true rfl) (fun v u hp => ?_)
    obtain ⟨rfl, rfl, z5⟩ := hp
    show ab_T _ _ _ _ 0 0 11 _ (.int _ :: []) _ _
    refine ab_if_eq (tgt := 26) (pc2 := 14) dX12_behind_11 (by decide) rfl hf (fun c6 hf => ?_) (fun c6 hf => ?_)
    · refine ab_iconst (pc2 := 27) (v := (-1)) dX12_behind_26 rfl ab_k_iconst_m1 ?_
      cases Option.some.inj hf
      exact ab_retI dX12_behind_27 (Or.inl rfl) (Nat.le_refl _) (Nat.le_refl _) ⟨rfl, rfl⟩
    · refine ab_iload_n (pc2 := 15) dX12_behind_14 rfl rfl ?_
      refine ab_i2l (pc2 := 16) dX12_behind_15 rfl ?_
      refine ab_lconst (pc2 := 17) (v := 0) dX12_behind_16 rfl rfl ?_
      refine ab_ldc2 (pc2 := 20) (v := 3) dX12_behind_17 rfl tw_139 ?_
      obtain ⟨w7, ew7, hf⟩ := ab_bind hf
      refine ab_callS (pc2 := 23) (st := []) (m_X12_isIn (d := (d + 6)) ew7) mf_X12_isIn tw_101 tw_102 dX12_behind_20 rfl (by omega) (Nat.le_refl _) (Nat.le_refl _) rfl (Nat.le_of_ble_eq_true rfl) (fun v u hp => ?_)
      obtain ⟨rfl, rfl, z8⟩ := hp
      show ab_T _ _ _ _ 0 0 23 _ (.int _ :: []) _ _
      refine ab_if_ne (tgt := 28) (pc2 := 26) dX12_behind_23 (by decide) rfl hf (fun c9 hf => ?_) (fun c9 hf => ?_)
      · refine ab_aload_n (x := _) (pc2 := 29) dX12_behind_28 rfl rfl ?_
        refine ab_iload_n (pc2 := 30) dX12_behind_29 rfl rfl ?_
        obtain ⟨w10, ew10, hf⟩ := ab_bind hf
        refine ab_callV (pc2 := 33) (st := []) rfl ht0 (by decide) (m_X12_wrongList (d := (d + 3)) ht0 ew10) mf_X12_wrongList tw_226 tw_225 ts_X12_wrongList (Or.inl (by decide +kernel)) dX12_behind_30 rfl (by omega) (Nat.le_refl _) (Nat.le_refl _) rfl (Nat.le_of_ble_eq_true rfl) (fun v u hp => ?_)
        obtain ⟨rfl, rfl⟩ := hp
        show ab_T _ _ _ _ 0 0 33 _ (.int _ :: []) _ _
        refine ab_istore (pc2 := 35) (lo2 := [some (va_rf _), some (.int _), some (.int _), some (.int _), some (.int _)]) dX12_behind_33 rfl (by decide) rfl ?_
        refine ab_iload (pc2 := 37) dX12_behind_35 rfl rfl ?_
        refine ab_if_eq (tgt := 43) (pc2 := 40) dX12_behind_37 (by decide) rfl hf (fun c11 hf => ?_) (fun c11 hf => ?_)
        · refine ab_aload_n (x := _) (pc2 := 44) dX12_behind_43 rfl rfl ?_
          refine ab_iload_n (pc2 := 45) dX12_behind_44 rfl rfl ?_
          refine ab_iload_n (pc2 := 46) dX12_behind_45 rfl rfl ?_
          obtain ⟨w12, ew12, hf⟩ := ab_bind hf
          refine ab_callV (pc2 := 49) (st := []) rfl ht0 (by decide) (m_X12_lays (d := (d + 5)) ht0 ew12) mf_X12_lays tw_228 tw_227 ts_X12_lays (Or.inl (by decide +kernel)) dX12_behind_46 rfl (by omega) (Nat.le_refl _) (Nat.le_refl _) rfl (Nat.le_of_ble_eq_true rfl) (fun v u hp => ?_)
          obtain ⟨rfl, rfl⟩ := hp
          show ab_T _ _ _ _ 0 0 49 _ ([]) _ _
          refine ab_aload_n (x := _) (pc2 := 50) dX12_behind_49 rfl rfl ?_
          obtain ⟨w13, ew13, hf⟩ := ab_bind hf
          refine ab_callV (pc2 := 53) (st := []) rfl ht0 (by decide) (m_X12_pairOf (d := (d + 0)) ht0 ew13) mf_X12_pairOf tw_230 tw_229 ts_X12_pairOf (Or.inl (by decide +kernel)) dX12_behind_50 rfl (by omega) (Nat.le_refl _) (Nat.le_refl _) rfl (Nat.le_of_ble_eq_true rfl) (fun v u hp => ?_)
          obtain ⟨rfl, rfl⟩ := hp
          show ab_T _ _ _ _ 0 0 53 _ ([]) _ _
          refine ab_iload_n (pc2 := 54) dX12_behind_53 rfl rfl ?_
          refine ab_if_ne (tgt := 64) (pc2 := 57) dX12_behind_54 (by decide) rfl hf (fun c14 hf => ?_) (fun c14 hf => ?_)
          · refine ab_iload_n (pc2 := 65) dX12_behind_64 rfl rfl ?_
            refine ab_iconst (pc2 := 66) (v := 1) dX12_behind_65 rfl ab_k_iconst_1 ?_
            refine ab_icmp_ne (tgt := 76) (pc2 := 69) dX12_behind_66 (by decide) rfl hf (fun c15 hf => ?_) (fun c15 hf => ?_)
            · refine ab_iload_n (pc2 := 77) dX12_behind_76 rfl rfl ?_
              refine ab_iconst (pc2 := 78) (v := 2) dX12_behind_77 rfl ab_k_iconst_2 ?_
              refine ab_icmp_ne (tgt := 88) (pc2 := 81) dX12_behind_78 (by decide) rfl hf (fun c16 hf => ?_) (fun c16 hf => ?_)
              · refine ab_aload_n (x := _) (pc2 := 89) dX12_behind_88 rfl rfl ?_
                refine ab_getI (pc2 := 92) rfl ht0 fa_X12_181 (by decide) dX12_behind_89 rfl ?_
                cases Option.some.inj hf
                exact ab_retI dX12_behind_92 (Or.inl rfl) (Nat.le_refl _) (Nat.le_refl _) ⟨rfl, rfl⟩
              · refine ab_aload_n (x := _) (pc2 := 82) dX12_behind_81 rfl rfl ?_
                refine ab_getI (pc2 := 85) rfl ht0 fa_X12_184 (by decide) dX12_behind_82 rfl ?_
                refine ab_goto (tgt := 92) dX12_behind_85 (by decide) ?_
                cases Option.some.inj hf
                exact ab_retI dX12_behind_92 (Or.inl rfl) (Nat.le_refl _) (Nat.le_refl _) ⟨rfl, rfl⟩
            · refine ab_aload_n (x := _) (pc2 := 70) dX12_behind_69 rfl rfl ?_
              refine ab_getI (pc2 := 73) rfl ht0 fa_X12_178 (by decide) dX12_behind_70 rfl ?_
              refine ab_goto (tgt := 92) dX12_behind_73 (by decide) ?_
              cases Option.some.inj hf
              exact ab_retI dX12_behind_92 (Or.inl rfl) (Nat.le_refl _) (Nat.le_refl _) ⟨rfl, rfl⟩
          · refine ab_aload_n (x := _) (pc2 := 58) dX12_behind_57 rfl rfl ?_
            refine ab_getI (pc2 := 61) rfl ht0 fa_X12_175 (by decide) dX12_behind_58 rfl ?_
            refine ab_goto (tgt := 92) dX12_behind_61 (by decide) ?_
            cases Option.some.inj hf
            exact ab_retI dX12_behind_92 (Or.inl rfl) (Nat.le_refl _) (Nat.le_refl _) ⟨rfl, rfl⟩
        · refine ab_iload (pc2 := 42) dX12_behind_40 rfl rfl ?_
          cases Option.some.inj hf
          exact ab_retI dX12_behind_42 (Or.inl rfl) (Nat.le_refl _) (Nat.le_refl _) ⟨rfl, rfl⟩
      · refine ab_iconst (pc2 := 27) (v := (-1)) dX12_behind_26 rfl ab_k_iconst_m1 ?_
        cases Option.some.inj hf
        exact ab_retI dX12_behind_27 (Or.inl rfl) (Nat.le_refl _) (Nat.le_refl _) ⟨rfl, rfl⟩
set_option maxHeartbeats 4000000 in
set_option maxRecDepth 100000 in
theorem m_X12_behind {d : Nat} {t0 : Nat} {i1 : Int32} {i2 : Int32} {i3 : Int32} {h : ab_HP} {r : (Int32 × ab_HP)} (ht0 : (ab_shp t0).1 = 5) (hf : f_X12_behind t0 i1 i2 i3 h = some r) : ab_MET mX12_behind (d + 7) 0 0 [va_rf (some t0), .int i1, .int i2, .int i3] h (ab_Pi r.1 r.2) := ab_met (by decide +kernel) (by decide +kernel) (Nat.le_of_ble_eq_true rfl) rfl (x_X12_behind ht0 hf)
set_option maxHeartbeats 4000000 in
set_option maxRecDepth 100000 in
theorem x_X12_bits_l4 {d : Nat}  {r : Int32}  : ∀ (n : Nat) (i1 : Int32) (i2 : Int32) (h : ab_HP), f_X12_bits_l4  n i1 i2 h = some r → ab_T mX12_bits (d + 0) 0 0 0 0 4 [none, some (.int i1), some (.int i2)] [] h (ab_Pi r h) := by
  intro n
  induction n with
  | zero =>
    intro i1 i2 h hf
    rw [f_X12_bits_l4] at hf
    cases hf
  | succ n ih =>
    intro i1 i2 h hf
    rw [f_X12_bits_l4] at hf
    refine ab_iload_n (pc2 := 5) dX12_bits_4 rfl rfl ?_
    refine ab_if_le (tgt := 21) (pc2 := 8) dX12_bits_5 (by decide) rfl hf (fun c1 hf => ?_) (fun c1 hf => ?_)
    · refine ab_iload_n (pc2 := 22) dX12_bits_21 rfl rfl ?_
      cases Option.some.inj hf
      exact ab_retI dX12_bits_22 (Or.inl rfl) (Nat.le_refl _) (Nat.le_refl _) ⟨rfl, rfl⟩
    · refine ab_iload_n (pc2 := 9) dX12_bits_8 rfl rfl ?_
      refine ab_iload_n (pc2 := 10) dX12_bits_9 rfl rfl ?_
      refine ab_iconst (pc2 := 11) (v := 1) dX12_bits_10 rfl ab_k_iconst_1 ?_
      refine ab_iand (pc2 := 12) dX12_bits_11 rfl ?_
      refine ab_iadd (pc2 := 13) dX12_bits_12 rfl ?_
      refine ab_istore_n (pc2 := 14) (lo2 := [none, some (.int _), some (.int _)]) dX12_bits_13 rfl (by decide) rfl ?_
      refine ab_iload_n (pc2 := 15) dX12_bits_14 rfl rfl ?_
      refine ab_iconst (pc2 := 16) (v := 1) dX12_bits_15 rfl ab_k_iconst_1 ?_
      refine ab_ishr (pc2 := 17) dX12_bits_16 rfl ?_
      refine ab_istore_n (pc2 := 18) (lo2 := [none, some (.int _), some (.int _)]) dX12_bits_17 rfl (by decide) rfl ?_
      refine ab_goto (tgt := 4) dX12_bits_18 (by decide) ?_
      exact ab_weak (ih _ _ _ hf) (ab_leN (ab_leS (ab_leS ab_le0)))
set_option maxHeartbeats 4000000 in
set_option maxRecDepth 100000 in
theorem x_X12_bits {d : Nat} {i0 : Int32} {h : ab_HP} {r : Int32}  (hf : f_X12_bits i0 h = some r) : ab_T mX12_bits (d + 0) 0 0 0 0 0 [some (.int i0), none, none] [] h (ab_Pi r h) := by
  unfold f_X12_bits at hf
  refine ab_iconst (pc2 := 1) (v := 0) dX12_bits_0 rfl ab_k_iconst_0 ?_
  refine ab_istore_n (pc2 := 2) (lo2 := [some (.int _), some (.int _), none]) dX12_bits_1 rfl (by decide) rfl ?_
  refine ab_iload_n (pc2 := 3) dX12_bits_2 rfl rfl ?_
  refine ab_istore_n (pc2 := 4) (lo2 := [some (.int _), some (.int _), some (.int _)]) dX12_bits_3 rfl (by decide) rfl ?_
  exact ab_weak (x_X12_bits_l4  _ _ _ _ hf) (ab_leN (ab_leS (ab_leS ab_le0)))
set_option maxHeartbeats 4000000 in
set_option maxRecDepth 100000 in
theorem m_X12_bits {d : Nat} {i0 : Int32} {h : ab_HP} {r : Int32}  (hf : f_X12_bits i0 h = some r) : ab_MET mX12_bits (d + 0) 0 0 [.int i0] h (ab_Pi r h) := ab_met (by decide +kernel) (by decide +kernel) (Nat.le_of_ble_eq_true rfl) rfl (x_X12_bits  hf)
set_option maxHeartbeats 4000000 in
set_option maxRecDepth 100000 in
theorem x_X12_finds_b94 {d : Nat} {k8 : Int32 → Int32 → ab_HP → Option (Int32 × ab_HP)} {t0 : Nat} {i1 : Int32} {i2 : Int32} {h : ab_HP} {r : (Int32 × ab_HP)} (ht0 : (ab_shp t0).1 = 5) (hk8 : ∀ (i1 : Int32) (i2 : Int32) (h : ab_HP), k8 i1 i2 h = some r → ab_T mX12_finds (d + 7) 0 0 0 0 8 [some (va_rf (some t0)), some (.int i1), some (.int i2)] [] h (ab_Pb r.1 r.2)) (hf : f_X12_finds_b94 k8 t0 i1 i2 h = some r) : ab_T mX12_finds (d + 7) 0 0 0 0 94 [some (va_rf (some t0)), some (.int i1), some (.int i2)] [] h (ab_Pb r.1 r.2) := by
  unfold f_X12_finds_b94 at hf
  refine ab_aload_n (x := _) (pc2 := 95) dX12_finds_94 rfl rfl ?_
  refine ab_iload_n (pc2 := 96) dX12_finds_95 rfl rfl ?_
  have hf := ab_let_e hf
  refine ab_putI (pc2 := 99) rfl ht0 fa_X12_232 (Or.inl rfl) (fun z => by cases z) dX12_finds_96 rfl ?_
  refine ab_aload_n (x := _) (pc2 := 100) dX12_finds_99 rfl rfl ?_
  refine ab_aload_n (x := _) (pc2 := 101) dX12_finds_100 rfl rfl ?_
  refine ab_getI (pc2 := 104) rfl ht0 fa_X12_181 (by decide) dX12_finds_101 rfl ?_
  have hf := ab_let_e hf
  refine ab_putI (pc2 := 107) rfl ht0 fa_X12_238 (Or.inl rfl) (fun z => by cases z) dX12_finds_104 rfl ?_
  refine ab_iinc (pc2 := 110) (v := _ + 1) (lo2 := [some (va_rf _), some (.int _), some (.int _)]) dX12_finds_107 rfl rfl rfl (by decide) rfl ?_
  refine ab_goto (tgt := 8) dX12_finds_110 (by decide) ?_
  exact ab_weak (hk8 _ _ _ hf) (ab_leS (ab_leS (ab_leS ab_le0)))
set_option maxHeartbeats 4000000 in
set_option maxRecDepth 100000 in
theorem x_X12_finds_l8 {d : Nat} {t0 : Nat} {r : (Int32 × ab_HP)} (ht0 : (ab_shp t0).1 = 5) : ∀ (n : Nat) (i1 : Int32) (i2 : Int32) (h : ab_HP), f_X12_finds_l8 t0 n i1 i2 h = some r → ab_T mX12_finds (d + 7) 0 0 0 0 8 [some (va_rf (some t0)), some (.int i1), some (.int i2)] [] h (ab_Pb r.1 r.2) := by
  intro n
  induction n with
  | zero =>
    intro i1 i2 h hf
    rw [f_X12_finds_l8] at hf
    cases hf
  | succ n ih =>
    intro i1 i2 h hf
    rw [f_X12_finds_l8] at hf
    refine ab_iload_n (pc2 := 9) dX12_finds_8 rfl rfl ?_
    refine ab_iconst (pc2 := 10) (v := 1) dX12_finds_9 rfl ab_k_iconst_1 ?_
    refine ab_aload_n (x := _) (pc2 := 11) dX12_finds_10 rfl rfl ?_
    refine ab_getI (pc2 := 14) rfl ht0 fa_X12_166 (by decide) dX12_finds_11 rfl ?_
    refine ab_ishl (pc2 := 15) dX12_finds_14 rfl ?_
    refine ab_icmp_ge (tgt := 113) (pc2 := 18) dX12_finds_15 (by decide) rfl hf (fun c2 hf => ?_) (fun c2 hf => ?_)
    · refine ab_aload_n (x := _) (pc2 := 114) dX12_finds_113 rfl rfl ?_
      refine ab_getI (pc2 := 117) rfl ht0 fa_X12_232 (by decide) dX12_finds_114 rfl ?_
      refine ab_if_lt (tgt := 124) (pc2 := 120) dX12_finds_117 (by decide) rfl hf (fun c3 hf => ?_) (fun c3 hf => ?_)
      · refine ab_iconst (pc2 := 125) (v := 0) dX12_finds_124 rfl ab_k_iconst_0 ?_
        cases Option.some.inj hf
        exact ab_retI dX12_finds_125 (Or.inr ⟨rfl, (Or.inl rfl)⟩) (Nat.le_refl _) (Nat.le_refl _) ⟨rfl, rfl, (Or.inl rfl)⟩
      · refine ab_iconst (pc2 := 121) (v := 1) dX12_finds_120 rfl ab_k_iconst_1 ?_
        refine ab_goto (tgt := 125) dX12_finds_121 (by decide) ?_
        cases Option.some.inj hf
        exact ab_retI dX12_finds_125 (Or.inr ⟨rfl, (Or.inr rfl)⟩) (Nat.le_refl _) (Nat.le_refl _) ⟨rfl, rfl, (Or.inr rfl)⟩
    · refine ab_aload_n (x := _) (pc2 := 19) dX12_finds_18 rfl rfl ?_
      refine ab_iload_n (pc2 := 20) dX12_finds_19 rfl rfl ?_
      have hf := ab_let_e hf
      refine ab_putI (pc2 := 23) rfl ht0 fa_X12_169 (Or.inl rfl) (fun z => by cases z) dX12_finds_20 rfl ?_
      refine ab_aload_n (x := _) (pc2 := 24) dX12_finds_23 rfl rfl ?_
      obtain ⟨w5, ew5, hf⟩ := ab_bind hf
      refine ab_callV (pc2 := 27) (st := []) rfl ht0 (by decide) (m_X12_begins (d := (d + 6)) ht0 ew5) mf_X12_begins tw_206 tw_205 ts_X12_begins (Or.inl (by decide +kernel)) dX12_finds_24 rfl (by omega) (Nat.le_refl _) (Nat.le_refl _) rfl (Nat.le_of_ble_eq_true rfl) (fun v u hp => ?_)
      obtain ⟨rfl, rfl⟩ := hp
      show ab_T _ _ _ _ 0 0 27 _ ([]) _ _
      refine ab_aload_n (x := _) (pc2 := 28) dX12_finds_27 rfl rfl ?_
      obtain ⟨w6, ew6, hf⟩ := ab_bind hf
      refine ab_callV (pc2 := 31) (st := []) rfl ht0 (by decide) (m_X12_pairOf (d := (d + 0)) ht0 ew6) mf_X12_pairOf tw_230 tw_229 ts_X12_pairOf (Or.inl (by decide +kernel)) dX12_finds_28 rfl (by omega) (Nat.le_refl _) (Nat.le_refl _) rfl (Nat.le_of_ble_eq_true rfl) (fun v u hp => ?_)
      obtain ⟨rfl, rfl⟩ := hp
      show ab_T _ _ _ _ 0 0 31 _ ([]) _ _
      refine ab_iload_n (pc2 := 32) dX12_finds_31 rfl rfl ?_
      refine ab_aload_n (x := _) (pc2 := 33) dX12_finds_32 rfl rfl ?_
      refine ab_getI (pc2 := 36) rfl ht0 fa_X12_175 (by decide) dX12_finds_33 rfl ?_
      refine ab_iconst (pc2 := 37) (v := (-1)) dX12_finds_36 rfl ab_k_iconst_m1 ?_
      refine ab_ixor (pc2 := 38) dX12_finds_37 rfl ?_
      refine ab_iand (pc2 := 39) dX12_finds_38 rfl ?_
      refine ab_if_eq (tgt := 45) (pc2 := 42) dX12_finds_39 (by decide) rfl hf (fun c7 hf => ?_) (fun c7 hf => ?_)
      · refine ab_aload_n (x := _) (pc2 := 46) dX12_finds_45 rfl rfl ?_
        refine ab_getI (pc2 := 49) rfl ht0 fa_X12_232 (by decide) dX12_finds_46 rfl ?_
        refine ab_if_lt (tgt := 94) (pc2 := 52) dX12_finds_49 (by decide) rfl hf (fun c8 hf => ?_) (fun c8 hf => ?_)
        · exact ab_weak (x_X12_finds_b94 ht0 ih hf) (ab_leS (ab_leS (ab_leS ab_le0)))
        · refine ab_iload_n (pc2 := 53) dX12_finds_52 rfl rfl ?_
          obtain ⟨w9, ew9, hf⟩ := ab_bind hf
          refine ab_callS (pc2 := 56) (st := []) (m_X12_bits (d := (d + 6)) ew9) mf_X12_bits tw_246 tw_247 dX12_finds_53 rfl (by omega) (Nat.le_refl _) (Nat.le_refl _) rfl (Nat.le_of_ble_eq_true rfl) (fun v u hp => ?_)
          obtain ⟨rfl, rfl⟩ := hp
          show ab_T _ _ _ _ 0 0 56 _ (.int _ :: []) _ _
          refine ab_aload_n (x := _) (pc2 := 57) dX12_finds_56 rfl rfl ?_
          refine ab_getI (pc2 := 60) rfl ht0 fa_X12_232 (by decide) dX12_finds_57 rfl ?_
          obtain ⟨w10, ew10, hf⟩ := ab_bind hf
          refine ab_callS (pc2 := 63) (st := [_]) (m_X12_bits (d := (d + 6)) ew10) mf_X12_bits tw_246 tw_247 dX12_finds_60 rfl (by omega) (Nat.le_refl _) (Nat.le_refl _) rfl (Nat.le_of_ble_eq_true rfl) (fun v u hp => ?_)
          obtain ⟨rfl, rfl⟩ := hp
          show ab_T _ _ _ _ 0 0 63 _ (.int _ :: [_]) _ _
          refine ab_icmp_gt (tgt := 107) (pc2 := 66) dX12_finds_63 (by decide) rfl hf (fun c11 hf => ?_) (fun c11 hf => ?_)
          · refine ab_iinc (pc2 := 110) (v := _ + 1) (lo2 := [some (va_rf _), some (.int _), some (.int _)]) dX12_finds_107 rfl rfl rfl (by decide) rfl ?_
            refine ab_goto (tgt := 8) dX12_finds_110 (by decide) ?_
            exact ab_weak (ih _ _ _ hf) (ab_leS (ab_leS (ab_leS ab_le0)))
          · refine ab_iload_n (pc2 := 67) dX12_finds_66 rfl rfl ?_
            obtain ⟨w12, ew12, hf⟩ := ab_bind hf
            refine ab_callS (pc2 := 70) (st := []) (m_X12_bits (d := (d + 6)) ew12) mf_X12_bits tw_246 tw_247 dX12_finds_67 rfl (by omega) (Nat.le_refl _) (Nat.le_refl _) rfl (Nat.le_of_ble_eq_true rfl) (fun v u hp => ?_)
            obtain ⟨rfl, rfl⟩ := hp
            show ab_T _ _ _ _ 0 0 70 _ (.int _ :: []) _ _
            refine ab_aload_n (x := _) (pc2 := 71) dX12_finds_70 rfl rfl ?_
            refine ab_getI (pc2 := 74) rfl ht0 fa_X12_232 (by decide) dX12_finds_71 rfl ?_
            obtain ⟨w13, ew13, hf⟩ := ab_bind hf
            refine ab_callS (pc2 := 77) (st := [_]) (m_X12_bits (d := (d + 6)) ew13) mf_X12_bits tw_246 tw_247 dX12_finds_74 rfl (by omega) (Nat.le_refl _) (Nat.le_refl _) rfl (Nat.le_of_ble_eq_true rfl) (fun v u hp => ?_)
            obtain ⟨rfl, rfl⟩ := hp
            show ab_T _ _ _ _ 0 0 77 _ (.int _ :: [_]) _ _
            refine ab_icmp_ne (tgt := 94) (pc2 := 80) dX12_finds_77 (by decide) rfl hf (fun c14 hf => ?_) (fun c14 hf => ?_)
            · exact ab_weak (x_X12_finds_b94 ht0 ih hf) (ab_leS (ab_leS (ab_leS ab_le0)))
            · refine ab_aload_n (x := _) (pc2 := 81) dX12_finds_80 rfl rfl ?_
              refine ab_getI (pc2 := 84) rfl ht0 fa_X12_181 (by decide) dX12_finds_81 rfl ?_
              refine ab_aload_n (x := _) (pc2 := 85) dX12_finds_84 rfl rfl ?_
              refine ab_getI (pc2 := 88) rfl ht0 fa_X12_238 (by decide) dX12_finds_85 rfl ?_
              refine ab_icmp_lt (tgt := 94) (pc2 := 91) dX12_finds_88 (by decide) rfl hf (fun c15 hf => ?_) (fun c15 hf => ?_)
              · exact ab_weak (x_X12_finds_b94 ht0 ih hf) (ab_leS (ab_leS (ab_leS ab_le0)))
              · refine ab_goto (tgt := 107) dX12_finds_91 (by decide) ?_
                refine ab_iinc (pc2 := 110) (v := _ + 1) (lo2 := [some (va_rf _), some (.int _), some (.int _)]) dX12_finds_107 rfl rfl rfl (by decide) rfl ?_
                refine ab_goto (tgt := 8) dX12_finds_110 (by decide) ?_
                exact ab_weak (ih _ _ _ hf) (ab_leS (ab_leS (ab_leS ab_le0)))
      · refine ab_goto (tgt := 107) dX12_finds_42 (by decide) ?_
        refine ab_iinc (pc2 := 110) (v := _ + 1) (lo2 := [some (va_rf _), some (.int _), some (.int _)]) dX12_finds_107 rfl rfl rfl (by decide) rfl ?_
        refine ab_goto (tgt := 8) dX12_finds_110 (by decide) ?_
        exact ab_weak (ih _ _ _ hf) (ab_leS (ab_leS (ab_leS ab_le0)))
set_option maxHeartbeats 4000000 in
set_option maxRecDepth 100000 in
theorem x_X12_finds {d : Nat} {t0 : Nat} {i1 : Int32} {h : ab_HP} {r : (Int32 × ab_HP)} (ht0 : (ab_shp t0).1 = 5) (hf : f_X12_finds t0 i1 h = some r) : ab_T mX12_finds (d + 7) 0 0 0 0 0 [some (va_rf (some t0)), some (.int i1), none] [] h (ab_Pb r.1 r.2) := by
  unfold f_X12_finds at hf
  refine ab_aload_n (x := _) (pc2 := 1) dX12_finds_0 rfl rfl ?_
  refine ab_bipush (pc2 := 3) (v := (-4)) dX12_finds_1 rfl ab_k_bipush_m4 ?_
  have hf := ab_let_e hf
  refine ab_putI (pc2 := 6) rfl ht0 fa_X12_232 (Or.inl rfl) (fun z => by cases z) dX12_finds_3 rfl ?_
  refine ab_iconst (pc2 := 7) (v := 0) dX12_finds_6 rfl ab_k_iconst_0 ?_
  refine ab_istore_n (pc2 := 8) (lo2 := [some (va_rf _), some (.int _), some (.int _)]) dX12_finds_7 rfl (by decide) rfl ?_
  exact ab_weak (x_X12_finds_l8 ht0 _ _ _ _ hf) (ab_leS (ab_leS (ab_leS ab_le0)))
set_option maxHeartbeats 4000000 in
set_option maxRecDepth 100000 in
theorem m_X12_finds {d : Nat} {t0 : Nat} {i1 : Int32} {h : ab_HP} {r : (Int32 × ab_HP)} (ht0 : (ab_shp t0).1 = 5) (hf : f_X12_finds t0 i1 h = some r) : ab_MET mX12_finds (d + 7) 0 0 [va_rf (some t0), .int i1] h (ab_Pb r.1 r.2) := ab_met (by decide +kernel) (by decide +kernel) (Nat.le_of_ble_eq_true rfl) rfl (x_X12_finds ht0 hf)
set_option maxHeartbeats 4000000 in
set_option maxRecDepth 100000 in
theorem x_X12_least {d : Nat} {t0 : Nat} {i1 : Int32} {i2 : Int32} {i3 : Int32} {h : ab_HP} {r : (Int32 × ab_HP)} (ht0 : (ab_shp t0).1 = 5) (hf : f_X12_least t0 i1 i2 i3 h = some r) : ab_T mX12_least (d + 8) 0 0 0 0 0 [some (va_rf (some t0)), some (.int i1), some (.int i2), some (.int i3), none] [] h (ab_Pi r.1 r.2) := by
  unfold f_X12_least at hf
  refine ab_iload_n (pc2 := 1) dX12_least_0 rfl rfl ?_
  obtain ⟨w1, ew1, hf⟩ := ab_bind hf
  refine ab_callS (pc2 := 4) (st := []) (m_X12_isShelf (d := (d + 6)) ew1) mf_X12_isShelf tw_103 tw_104 dX12_least_1 rfl (by omega) (Nat.le_refl _) (Nat.le_refl _) rfl (Nat.le_of_ble_eq_true rfl) (fun v u hp => ?_)
  obtain ⟨rfl, rfl, z2⟩ := hp
  show ab_T _ _ _ _ 0 0 4 _ (.int _ :: []) _ _
  refine ab_if_eq (tgt := 31) (pc2 := 7) dX12_least_4 (by decide) rfl hf (fun c3 hf => ?_) (fun c3 hf => ?_)
  · refine ab_iconst (pc2 := 32) (v := (-1)) dX12_least_31 rfl ab_k_iconst_m1 ?_
    cases Option.some.inj hf
    exact ab_retI dX12_least_32 (Or.inl rfl) (Nat.le_refl _) (Nat.le_refl _) ⟨rfl, rfl⟩
  · refine ab_iload_n (pc2 := 8) dX12_least_7 rfl rfl ?_
    refine ab_i2l (pc2 := 9) dX12_least_8 rfl ?_
    refine ab_lconst (pc2 := 10) (v := 0) dX12_least_9 rfl rfl ?_
    refine ab_ldc2 (pc2 := 13) (v := 1023) dX12_least_10 rfl tw_248 ?_
    obtain ⟨w4, ew4, hf⟩ := ab_bind hf
    refine ab_callS (pc2 := 16) (st := []) (m_X12_isIn (d := (d + 7)) ew4) mf_X12_isIn tw_101 tw_102 dX12_least_13 rfl (by omega) (Nat.le_refl _) (Nat.le_refl _) rfl (Nat.le_of_ble_eq_true rfl) (fun v u hp => ?_)
    obtain ⟨rfl, rfl, z5⟩ := hp
    show ab_T _ _ _ _ 0 0 16 _ (.int _ :: []) _ _
    refine ab_if_eq (tgt := 31) (pc2 := 19) dX12_least_16 (by decide) rfl hf (fun c6 hf => ?_) (fun c6 hf => ?_)
    · refine ab_iconst (pc2 := 32) (v := (-1)) dX12_least_31 rfl ab_k_iconst_m1 ?_
      cases Option.some.inj hf
      exact ab_retI dX12_least_32 (Or.inl rfl) (Nat.le_refl _) (Nat.le_refl _) ⟨rfl, rfl⟩
    · refine ab_iload_n (pc2 := 20) dX12_least_19 rfl rfl ?_
      refine ab_i2l (pc2 := 21) dX12_least_20 rfl ?_
      refine ab_lconst (pc2 := 22) (v := 0) dX12_least_21 rfl rfl ?_
      refine ab_ldc2 (pc2 := 25) (v := 2) dX12_least_22 rfl tw_143 ?_
      obtain ⟨w7, ew7, hf⟩ := ab_bind hf
      refine ab_callS (pc2 := 28) (st := []) (m_X12_isIn (d := (d + 7)) ew7) mf_X12_isIn tw_101 tw_102 dX12_least_25 rfl (by omega) (Nat.le_refl _) (Nat.le_refl _) rfl (Nat.le_of_ble_eq_true rfl) (fun v u hp => ?_)
      obtain ⟨rfl, rfl, z8⟩ := hp
      show ab_T _ _ _ _ 0 0 28 _ (.int _ :: []) _ _
      refine ab_if_ne (tgt := 33) (pc2 := 31) dX12_least_28 (by decide) rfl hf (fun c9 hf => ?_) (fun c9 hf => ?_)
      · refine ab_aload_n (x := _) (pc2 := 34) dX12_least_33 rfl rfl ?_
        refine ab_iload_n (pc2 := 35) dX12_least_34 rfl rfl ?_
        obtain ⟨w10, ew10, hf⟩ := ab_bind hf
        refine ab_callV (pc2 := 38) (st := []) rfl ht0 (by decide) (m_X12_wrongList (d := (d + 4)) ht0 ew10) mf_X12_wrongList tw_226 tw_225 ts_X12_wrongList (Or.inl (by decide +kernel)) dX12_least_35 rfl (by omega) (Nat.le_refl _) (Nat.le_refl _) rfl (Nat.le_of_ble_eq_true rfl) (fun v u hp => ?_)
        obtain ⟨rfl, rfl⟩ := hp
        show ab_T _ _ _ _ 0 0 38 _ (.int _ :: []) _ _
        refine ab_istore (pc2 := 40) (lo2 := [some (va_rf _), some (.int _), some (.int _), some (.int _), some (.int _)]) dX12_least_38 rfl (by decide) rfl ?_
        refine ab_iload (pc2 := 42) dX12_least_40 rfl rfl ?_
        refine ab_if_eq (tgt := 48) (pc2 := 45) dX12_least_42 (by decide) rfl hf (fun c11 hf => ?_) (fun c11 hf => ?_)
        · refine ab_aload_n (x := _) (pc2 := 49) dX12_least_48 rfl rfl ?_
          refine ab_iload_n (pc2 := 50) dX12_least_49 rfl rfl ?_
          refine ab_iconst (pc2 := 51) (v := 0) dX12_least_50 rfl ab_k_iconst_0 ?_
          obtain ⟨w12, ew12, hf⟩ := ab_bind hf
          refine ab_callV (pc2 := 54) (st := []) rfl ht0 (by decide) (m_X12_lays (d := (d + 6)) ht0 ew12) mf_X12_lays tw_228 tw_227 ts_X12_lays (Or.inl (by decide +kernel)) dX12_least_51 rfl (by omega) (Nat.le_refl _) (Nat.le_refl _) rfl (Nat.le_of_ble_eq_true rfl) (fun v u hp => ?_)
          obtain ⟨rfl, rfl⟩ := hp
          show ab_T _ _ _ _ 0 0 54 _ ([]) _ _
          refine ab_aload_n (x := _) (pc2 := 55) dX12_least_54 rfl rfl ?_
          refine ab_iload_n (pc2 := 56) dX12_least_55 rfl rfl ?_
          obtain ⟨w13, ew13, hf⟩ := ab_bind hf
          refine ab_callV (pc2 := 59) (st := []) rfl ht0 (by decide) (m_X12_finds (d := (d + 0)) ht0 ew13) mf_X12_finds tw_250 tw_249 ts_X12_finds (Or.inl (by decide +kernel)) dX12_least_56 rfl (by omega) (Nat.le_refl _) (Nat.le_refl _) rfl (Nat.le_of_ble_eq_true rfl) (fun v u hp => ?_)
          obtain ⟨rfl, rfl, z14⟩ := hp
          show ab_T _ _ _ _ 0 0 59 _ (.int _ :: []) _ _
          refine ab_if_ne (tgt := 65) (pc2 := 62) dX12_least_59 (by decide) rfl hf (fun c15 hf => ?_) (fun c15 hf => ?_)
          · refine ab_iload_n (pc2 := 66) dX12_least_65 rfl rfl ?_
            refine ab_if_ne (tgt := 79) (pc2 := 69) dX12_least_66 (by decide) rfl hf (fun c16 hf => ?_) (fun c16 hf => ?_)
            · refine ab_iload_n (pc2 := 80) dX12_least_79 rfl rfl ?_
              refine ab_iconst (pc2 := 81) (v := 1) dX12_least_80 rfl ab_k_iconst_1 ?_
              refine ab_icmp_ne (tgt := 91) (pc2 := 84) dX12_least_81 (by decide) rfl hf (fun c17 hf => ?_) (fun c17 hf => ?_)
              · refine ab_aload_n (x := _) (pc2 := 92) dX12_least_91 rfl rfl ?_
                refine ab_getI (pc2 := 95) rfl ht0 fa_X12_232 (by decide) dX12_least_92 rfl ?_
                cases Option.some.inj hf
                exact ab_retI dX12_least_95 (Or.inl rfl) (Nat.le_refl _) (Nat.le_refl _) ⟨rfl, rfl⟩
              · refine ab_aload_n (x := _) (pc2 := 85) dX12_least_84 rfl rfl ?_
                refine ab_getI (pc2 := 88) rfl ht0 fa_X12_238 (by decide) dX12_least_85 rfl ?_
                refine ab_goto (tgt := 95) dX12_least_88 (by decide) ?_
                cases Option.some.inj hf
                exact ab_retI dX12_least_95 (Or.inl rfl) (Nat.le_refl _) (Nat.le_refl _) ⟨rfl, rfl⟩
            · refine ab_aload_n (x := _) (pc2 := 70) dX12_least_69 rfl rfl ?_
              refine ab_getI (pc2 := 73) rfl ht0 fa_X12_232 (by decide) dX12_least_70 rfl ?_
              obtain ⟨w18, ew18, hf⟩ := ab_bind hf
              refine ab_callS (pc2 := 76) (st := []) (m_X12_bits (d := (d + 7)) ew18) mf_X12_bits tw_246 tw_247 dX12_least_73 rfl (by omega) (Nat.le_refl _) (Nat.le_refl _) rfl (Nat.le_of_ble_eq_true rfl) (fun v u hp => ?_)
              obtain ⟨rfl, rfl⟩ := hp
              show ab_T _ _ _ _ 0 0 76 _ (.int _ :: []) _ _
              refine ab_goto (tgt := 95) dX12_least_76 (by decide) ?_
              cases Option.some.inj hf
              exact ab_retI dX12_least_95 (Or.inl rfl) (Nat.le_refl _) (Nat.le_refl _) ⟨rfl, rfl⟩
          · refine ab_bipush (pc2 := 64) (v := (-4)) dX12_least_62 rfl ab_k_bipush_m4 ?_
            cases Option.some.inj hf
            exact ab_retI dX12_least_64 (Or.inl rfl) (Nat.le_refl _) (Nat.le_refl _) ⟨rfl, rfl⟩
        · refine ab_iload (pc2 := 47) dX12_least_45 rfl rfl ?_
          cases Option.some.inj hf
          exact ab_retI dX12_least_47 (Or.inl rfl) (Nat.le_refl _) (Nat.le_refl _) ⟨rfl, rfl⟩
      · refine ab_iconst (pc2 := 32) (v := (-1)) dX12_least_31 rfl ab_k_iconst_m1 ?_
        cases Option.some.inj hf
        exact ab_retI dX12_least_32 (Or.inl rfl) (Nat.le_refl _) (Nat.le_refl _) ⟨rfl, rfl⟩
set_option maxHeartbeats 4000000 in
set_option maxRecDepth 100000 in
theorem m_X12_least {d : Nat} {t0 : Nat} {i1 : Int32} {i2 : Int32} {i3 : Int32} {h : ab_HP} {r : (Int32 × ab_HP)} (ht0 : (ab_shp t0).1 = 5) (hf : f_X12_least t0 i1 i2 i3 h = some r) : ab_MET mX12_least (d + 8) 0 0 [va_rf (some t0), .int i1, .int i2, .int i3] h (ab_Pi r.1 r.2) := ab_met (by decide +kernel) (by decide +kernel) (Nat.le_of_ble_eq_true rfl) rfl (x_X12_least ht0 hf)
set_option maxHeartbeats 4000000 in
set_option maxRecDepth 100000 in
theorem x_X12_lines_l141 {d : Nat} {self : Nat → Int32 → Int32 → Int32 → Int32 → ab_HP → Option ab_HP} {t0 : Nat} {r : ab_HP} (hself : ∀ (t : Nat) (a1 : Int32) (a2 : Int32) (a3 : Int32) (a4 : Int32) (h w : ab_HP), (ab_shp t).1 = 5 → self t a1 a2 a3 a4 h = some w → ab_MET mX12_lines d 0 0 [va_rf (some t), .int a1, .int a2, .int a3, .int a4] h (ab_Pv w)) (ht0 : (ab_shp t0).1 = 5) : ∀ (n : Nat) (i1 : Int32) (i2 : Int32) (i3 : Int32) (i4 : Int32) (i5 : Int32) (i6 : Int32) (h : ab_HP), f_X12_lines_l141 self t0 n i1 i2 i3 i4 i5 i6 h = some r → ab_T mX12_lines (d + 8) 0 0 0 0 141 [some (va_rf (some t0)), some (.int i1), some (.int i2), some (.int i3), some (.int i4), some (.int i5), some (.int i6)] [] h (ab_Pv r) := by
  intro n
  induction n with
  | zero =>
    intro i1 i2 i3 i4 i5 i6 h hf
    rw [f_X12_lines_l141] at hf
    cases hf
  | succ n ih =>
    intro i1 i2 i3 i4 i5 i6 h hf
    rw [f_X12_lines_l141] at hf
    refine ab_iload (pc2 := 143) dX12_lines_141 rfl rfl ?_
    refine ab_iload (pc2 := 145) dX12_lines_143 rfl rfl ?_
    refine ab_icmp_ge (tgt := 191) (pc2 := 148) dX12_lines_145 (by decide) rfl hf (fun c5 hf => ?_) (fun c5 hf => ?_)
    · cases Option.some.inj hf
      exact ab_retV dX12_lines_191 rfl (Nat.le_refl _) (Nat.le_refl _) ⟨rfl, rfl⟩
    · refine ab_iload_n (pc2 := 149) dX12_lines_148 rfl rfl ?_
      refine ab_iload (pc2 := 151) dX12_lines_149 rfl rfl ?_
      refine ab_ishr (pc2 := 152) dX12_lines_151 rfl ?_
      refine ab_iconst (pc2 := 153) (v := 1) dX12_lines_152 rfl ab_k_iconst_1 ?_
      refine ab_iand (pc2 := 154) dX12_lines_153 rfl ?_
      refine ab_iconst (pc2 := 155) (v := 1) dX12_lines_154 rfl ab_k_iconst_1 ?_
      refine ab_icmp_ne (tgt := 161) (pc2 := 158) dX12_lines_155 (by decide) rfl hf (fun c6 hf => ?_) (fun c6 hf => ?_)
      · refine ab_aload_n (x := _) (pc2 := 162) dX12_lines_161 rfl rfl ?_
        refine ab_getR (pc2 := 165) rfl ht0 fa_X12_55 dX12_lines_162 rfl (fun T7 => ?_)
        refine ab_iload_n (pc2 := 166) dX12_lines_165 rfl rfl ?_
        refine ab_iload (pc2 := 168) dX12_lines_166 rfl rfl ?_
        obtain ⟨q8, hq8, hf⟩ := ab_bind hf
        obtain ⟨b9, hf⟩ := ab_guard hf
        have hf := ab_let_e hf
        refine ab_iast (pc2 := 169) hq8 (T7 q8 hq8) (ab_in_vp b9) dX12_lines_168 rfl ?_
        refine ab_aload_n (x := _) (pc2 := 170) dX12_lines_169 rfl rfl ?_
        refine ab_iload_n (pc2 := 171) dX12_lines_170 rfl rfl ?_
        refine ab_iload_n (pc2 := 172) dX12_lines_171 rfl rfl ?_
        refine ab_iconst (pc2 := 173) (v := 1) dX12_lines_172 rfl ab_k_iconst_1 ?_
        refine ab_iadd (pc2 := 174) dX12_lines_173 rfl ?_
        refine ab_iload_n (pc2 := 175) dX12_lines_174 rfl rfl ?_
        refine ab_iconst (pc2 := 176) (v := 1) dX12_lines_175 rfl ab_k_iconst_1 ?_
        refine ab_iload (pc2 := 178) dX12_lines_176 rfl rfl ?_
        refine ab_ishl (pc2 := 179) dX12_lines_178 rfl ?_
        refine ab_ior (pc2 := 180) dX12_lines_179 rfl ?_
        refine ab_iload (pc2 := 182) dX12_lines_180 rfl rfl ?_
        obtain ⟨w11, ew11, hf⟩ := ab_bind hf
        refine ab_callV (pc2 := 185) (st := []) rfl ht0 (by decide) (hself _ _ _ _ _ _ _ ht0 ew11) mf_X12_lines tw_264 tw_263 ts_X12_lines (Or.inl (by decide +kernel)) dX12_lines_182 rfl (by omega) (Nat.le_refl _) (Nat.le_refl _) rfl (Nat.le_of_ble_eq_true rfl) (fun v u hp => ?_)
        obtain ⟨rfl, rfl⟩ := hp
        show ab_T _ _ _ _ 0 0 185 _ ([]) _ _
        refine ab_iinc (pc2 := 188) (v := _ + 1) (lo2 := [some (va_rf _), some (.int _), some (.int _), some (.int _), some (.int _), some (.int _), some (.int _)]) dX12_lines_185 rfl rfl rfl (by decide) rfl ?_
        refine ab_goto (tgt := 141) dX12_lines_188 (by decide) ?_
        exact ab_weak (ih _ _ _ _ _ _ _ hf) (ab_leS (ab_leS (ab_leS (ab_leS (ab_leS (ab_leS (ab_leS ab_le0)))))))
      · refine ab_goto (tgt := 185) dX12_lines_158 (by decide) ?_
        refine ab_iinc (pc2 := 188) (v := _ + 1) (lo2 := [some (va_rf _), some (.int _), some (.int _), some (.int _), some (.int _), some (.int _), some (.int _)]) dX12_lines_185 rfl rfl rfl (by decide) rfl ?_
        refine ab_goto (tgt := 141) dX12_lines_188 (by decide) ?_
        exact ab_weak (ih _ _ _ _ _ _ _ hf) (ab_leS (ab_leS (ab_leS (ab_leS (ab_leS (ab_leS (ab_leS ab_le0)))))))
set_option maxHeartbeats 4000000 in
set_option maxRecDepth 100000 in
theorem x_X12_lines_l107 {d : Nat} {self : Nat → Int32 → Int32 → Int32 → Int32 → ab_HP → Option ab_HP} {t0 : Nat} {r : ab_HP} (hself : ∀ (t : Nat) (a1 : Int32) (a2 : Int32) (a3 : Int32) (a4 : Int32) (h w : ab_HP), (ab_shp t).1 = 5 → self t a1 a2 a3 a4 h = some w → ab_MET mX12_lines d 0 0 [va_rf (some t), .int a1, .int a2, .int a3, .int a4] h (ab_Pv w)) (ht0 : (ab_shp t0).1 = 5) : ∀ (n : Nat) (i6 : Int32) (h : ab_HP), f_X12_lines_l107 self t0 n i6 h = some r → ab_T mX12_lines (d + 8) 0 0 0 0 107 [some (va_rf (some t0)), none, none, none, none, none, some (.int i6)] [] h (ab_Pv r) := by
  intro n
  induction n with
  | zero =>
    intro i6 h hf
    rw [f_X12_lines_l107] at hf
    cases hf
  | succ n ih =>
    intro i6 h hf
    rw [f_X12_lines_l107] at hf
    refine ab_iload (pc2 := 109) dX12_lines_107 rfl rfl ?_
    refine ab_if_lt (tgt := 137) (pc2 := 112) dX12_lines_109 (by decide) rfl hf (fun c32 hf => ?_) (fun c32 hf => ?_)
    · cases Option.some.inj hf
      exact ab_retV dX12_lines_137 rfl (Nat.le_refl _) (Nat.le_refl _) ⟨rfl, rfl⟩
    · refine ab_aload_n (x := _) (pc2 := 113) dX12_lines_112 rfl rfl ?_
      refine ab_bipush (pc2 := 115) (v := 10) dX12_lines_113 rfl ab_k_bipush_10 ?_
      refine ab_aload_n (x := _) (pc2 := 116) dX12_lines_115 rfl rfl ?_
      refine ab_getI (pc2 := 119) rfl ht0 fa_X12_249 (by decide) dX12_lines_116 rfl ?_
      refine ab_imul (pc2 := 120) dX12_lines_119 rfl ?_
      refine ab_aload_n (x := _) (pc2 := 121) dX12_lines_120 rfl rfl ?_
      refine ab_getR (pc2 := 124) rfl ht0 fa_X12_55 dX12_lines_121 rfl (fun T33 => ?_)
      refine ab_iload (pc2 := 126) dX12_lines_124 rfl rfl ?_
      obtain ⟨q34, hq34, hf⟩ := ab_bind hf
      obtain ⟨b35, hf⟩ := ab_guard hf
      refine ab_iald (pc2 := 127) hq34 (T33 q34 hq34) (ab_in_vp b35) dX12_lines_126 rfl ?_
      refine ab_iadd (pc2 := 128) dX12_lines_127 rfl ?_
      have hf := ab_let_e hf
      refine ab_putI (pc2 := 131) rfl ht0 fa_X12_249 (Or.inl rfl) (fun z => by cases z) dX12_lines_128 rfl ?_
      refine ab_iinc (pc2 := 134) (v := _ + (-1)) (lo2 := [some (va_rf _), none, none, none, none, none, some (.int _)]) dX12_lines_131 rfl rfl rfl (by decide) rfl ?_
      refine ab_goto (tgt := 107) dX12_lines_134 (by decide) ?_
      exact ab_weak (ih _ _ hf) (ab_leS (ab_leN (ab_leN (ab_leN (ab_leN (ab_leN (ab_leS ab_le0)))))))
set_option maxHeartbeats 4000000 in
set_option maxRecDepth 100000 in
theorem x_X12_lines_b85 {d : Nat} {self : Nat → Int32 → Int32 → Int32 → Int32 → ab_HP → Option ab_HP} {t0 : Nat} {i5 : Int32} {h : ab_HP} {r : ab_HP} (hself : ∀ (t : Nat) (a1 : Int32) (a2 : Int32) (a3 : Int32) (a4 : Int32) (h w : ab_HP), (ab_shp t).1 = 5 → self t a1 a2 a3 a4 h = some w → ab_MET mX12_lines d 0 0 [va_rf (some t), .int a1, .int a2, .int a3, .int a4] h (ab_Pv w)) (ht0 : (ab_shp t0).1 = 5) (hf : f_X12_lines_b85 self t0 i5 h = some r) : ab_T mX12_lines (d + 8) 0 0 0 0 85 [some (va_rf (some t0)), none, none, none, none, some (.int i5), none] [] h (ab_Pv r) := by
  unfold f_X12_lines_b85 at hf
  refine ab_aload_n (x := _) (pc2 := 86) dX12_lines_85 rfl rfl ?_
  refine ab_aload_n (x := _) (pc2 := 87) dX12_lines_86 rfl rfl ?_
  refine ab_getI (pc2 := 90) rfl ht0 fa_X12_232 (by decide) dX12_lines_87 rfl ?_
  obtain ⟨w29, ew29, hf⟩ := ab_bind hf
  refine ab_callS (pc2 := 93) (st := [_]) (m_X12_bits (d := (d + 7)) ew29) mf_X12_bits tw_246 tw_247 dX12_lines_90 rfl (by omega) (Nat.le_refl _) (Nat.le_refl _) rfl (Nat.le_of_ble_eq_true rfl) (fun v u hp => ?_)
  obtain ⟨rfl, rfl⟩ := hp
  show ab_T _ _ _ _ 0 0 93 _ (.int _ :: [_]) _ _
  have hf := ab_let_e hf
  refine ab_putI (pc2 := 96) rfl ht0 fa_X12_246 (Or.inl rfl) (fun z => by cases z) dX12_lines_93 rfl ?_
  refine ab_aload_n (x := _) (pc2 := 97) dX12_lines_96 rfl rfl ?_
  refine ab_iconst (pc2 := 98) (v := 0) dX12_lines_97 rfl ab_k_iconst_0 ?_
  have hf := ab_let_e hf
  refine ab_putI (pc2 := 101) rfl ht0 fa_X12_249 (Or.inl rfl) (fun z => by cases z) dX12_lines_98 rfl ?_
  refine ab_iload (pc2 := 103) dX12_lines_101 rfl rfl ?_
  refine ab_iconst (pc2 := 104) (v := 1) dX12_lines_103 rfl ab_k_iconst_1 ?_
  refine ab_isub (pc2 := 105) dX12_lines_104 rfl ?_
  refine ab_istore (pc2 := 107) (lo2 := [some (va_rf _), none, none, none, none, some (.int _), some (.int _)]) dX12_lines_105 rfl (by decide) rfl ?_
  exact ab_weak (x_X12_lines_l107 hself ht0 _ _ _ hf) (ab_leS (ab_leN (ab_leN (ab_leN (ab_leN (ab_leN (ab_leS ab_le0)))))))
set_option maxHeartbeats 4000000 in
set_option maxRecDepth 100000 in
theorem x_X12_lines_l17 {d : Nat} {self : Nat → Int32 → Int32 → Int32 → Int32 → ab_HP → Option ab_HP} {t0 : Nat} {r : ab_HP} (hself : ∀ (t : Nat) (a1 : Int32) (a2 : Int32) (a3 : Int32) (a4 : Int32) (h w : ab_HP), (ab_shp t).1 = 5 → self t a1 a2 a3 a4 h = some w → ab_MET mX12_lines d 0 0 [va_rf (some t), .int a1, .int a2, .int a3, .int a4] h (ab_Pv w)) (ht0 : (ab_shp t0).1 = 5) : ∀ (n : Nat) (i1 : Int32) (i4 : Int32) (i5 : Int32) (i6 : Int32) (h : ab_HP), f_X12_lines_l17 self t0 n i1 i4 i5 i6 h = some r → ab_T mX12_lines (d + 8) 0 0 0 0 17 [some (va_rf (some t0)), some (.int i1), none, none, some (.int i4), some (.int i5), some (.int i6)] [] h (ab_Pv r) := by
  intro n
  induction n with
  | zero =>
    intro i1 i4 i5 i6 h hf
    rw [f_X12_lines_l17] at hf
    cases hf
  | succ n ih =>
    intro i1 i4 i5 i6 h hf
    rw [f_X12_lines_l17] at hf
    refine ab_iload (pc2 := 19) dX12_lines_17 rfl rfl ?_
    refine ab_iload (pc2 := 21) dX12_lines_19 rfl rfl ?_
    refine ab_icmp_ge (tgt := 54) (pc2 := 24) dX12_lines_21 (by decide) rfl hf (fun c12 hf => ?_) (fun c12 hf => ?_)
    · refine ab_aload_n (x := _) (pc2 := 55) dX12_lines_54 rfl rfl ?_
      refine ab_iload (pc2 := 57) dX12_lines_55 rfl rfl ?_
      obtain ⟨w13, ew13, hf⟩ := ab_bind hf
      refine ab_callV (pc2 := 60) (st := []) rfl ht0 (by decide) (m_X12_finds (d := (d + 0)) ht0 ew13) mf_X12_finds tw_250 tw_249 ts_X12_finds (Or.inl (by decide +kernel)) dX12_lines_57 rfl (by omega) (Nat.le_refl _) (Nat.le_refl _) rfl (Nat.le_of_ble_eq_true rfl) (fun v u hp => ?_)
      obtain ⟨rfl, rfl, z14⟩ := hp
      show ab_T _ _ _ _ 0 0 60 _ (.int _ :: []) _ _
      refine ab_if_eq (tgt := 84) (pc2 := 63) dX12_lines_60 (by decide) rfl hf (fun c15 hf => ?_) (fun c15 hf => ?_)
      · cases Option.some.inj hf
        exact ab_retV dX12_lines_84 rfl (Nat.le_refl _) (Nat.le_refl _) ⟨rfl, rfl⟩
      · refine ab_aload_n (x := _) (pc2 := 64) dX12_lines_63 rfl rfl ?_
        refine ab_getI (pc2 := 67) rfl ht0 fa_X12_246 (by decide) dX12_lines_64 rfl ?_
        refine ab_if_lt (tgt := 85) (pc2 := 70) dX12_lines_67 (by decide) rfl hf (fun c16 hf => ?_) (fun c16 hf => ?_)
        · exact ab_weak (x_X12_lines_b85 hself ht0 hf) (ab_leS (ab_leN (ab_leN (ab_leN (ab_leN (ab_leS (ab_leN ab_le0)))))))
        · refine ab_aload_n (x := _) (pc2 := 71) dX12_lines_70 rfl rfl ?_
          refine ab_getI (pc2 := 74) rfl ht0 fa_X12_232 (by decide) dX12_lines_71 rfl ?_
          obtain ⟨w17, ew17, hf⟩ := ab_bind hf
          refine ab_callS (pc2 := 77) (st := []) (m_X12_bits (d := (d + 7)) ew17) mf_X12_bits tw_246 tw_247 dX12_lines_74 rfl (by omega) (Nat.le_refl _) (Nat.le_refl _) rfl (Nat.le_of_ble_eq_true rfl) (fun v u hp => ?_)
          obtain ⟨rfl, rfl⟩ := hp
          show ab_T _ _ _ _ 0 0 77 _ (.int _ :: []) _ _
          refine ab_aload_n (x := _) (pc2 := 78) dX12_lines_77 rfl rfl ?_
          refine ab_getI (pc2 := 81) rfl ht0 fa_X12_246 (by decide) dX12_lines_78 rfl ?_
          refine ab_icmp_lt (tgt := 85) (pc2 := 84) dX12_lines_81 (by decide) rfl hf (fun c18 hf => ?_) (fun c18 hf => ?_)
          · exact ab_weak (x_X12_lines_b85 hself ht0 hf) (ab_leS (ab_leN (ab_leN (ab_leN (ab_leN (ab_leS (ab_leN ab_le0)))))))
          · cases Option.some.inj hf
            exact ab_retV dX12_lines_84 rfl (Nat.le_refl _) (Nat.le_refl _) ⟨rfl, rfl⟩
    · refine ab_aload_n (x := _) (pc2 := 25) dX12_lines_24 rfl rfl ?_
      refine ab_getR (pc2 := 28) rfl ht0 fa_X12_40 dX12_lines_25 rfl (fun T19 => ?_)
      refine ab_iload (pc2 := 30) dX12_lines_28 rfl rfl ?_
      refine ab_aload_n (x := _) (pc2 := 31) dX12_lines_30 rfl rfl ?_
      refine ab_getR (pc2 := 34) rfl ht0 fa_X12_28 dX12_lines_31 rfl (fun T20 => ?_)
      refine ab_bipush (pc2 := 36) (v := 100) dX12_lines_34 rfl ab_k_bipush_100 ?_
      refine ab_iload_n (pc2 := 37) dX12_lines_36 rfl rfl ?_
      refine ab_imul (pc2 := 38) dX12_lines_37 rfl ?_
      refine ab_aload_n (x := _) (pc2 := 39) dX12_lines_38 rfl rfl ?_
      refine ab_getR (pc2 := 42) rfl ht0 fa_X12_55 dX12_lines_39 rfl (fun T21 => ?_)
      refine ab_iload (pc2 := 44) dX12_lines_42 rfl rfl ?_
      obtain ⟨q22, hq22, hf⟩ := ab_bind hf
      obtain ⟨b23, hf⟩ := ab_guard hf
      refine ab_iald (pc2 := 45) hq22 (T21 q22 hq22) (ab_in_vp b23) dX12_lines_44 rfl ?_
      refine ab_iadd (pc2 := 46) dX12_lines_45 rfl ?_
      obtain ⟨q24, hq24, hf⟩ := ab_bind hf
      obtain ⟨b25, hf⟩ := ab_guard hf
      refine ab_iald (pc2 := 47) hq24 (T20 q24 hq24) (ab_in_vp b25) dX12_lines_46 rfl ?_
      obtain ⟨q26, hq26, hf⟩ := ab_bind hf
      obtain ⟨b27, hf⟩ := ab_guard hf
      have hf := ab_let_e hf
      refine ab_iast (pc2 := 48) hq26 (T19 q26 hq26) (ab_in_vp b27) dX12_lines_47 rfl ?_
      refine ab_iinc (pc2 := 51) (v := _ + 1) (lo2 := [some (va_rf _), some (.int _), none, none, some (.int _), some (.int _), some (.int _)]) dX12_lines_48 rfl rfl rfl (by decide) rfl ?_
      refine ab_goto (tgt := 17) dX12_lines_51 (by decide) ?_
      exact ab_weak (ih _ _ _ _ _ hf) (ab_leS (ab_leS (ab_leN (ab_leN (ab_leS (ab_leS (ab_leS ab_le0)))))))
set_option maxHeartbeats 4000000 in
set_option maxRecDepth 100000 in
theorem x_X12_lines {d : Nat} {self : Nat → Int32 → Int32 → Int32 → Int32 → ab_HP → Option ab_HP} {t0 : Nat} {i1 : Int32} {i2 : Int32} {i3 : Int32} {i4 : Int32} {h : ab_HP} {r : ab_HP} (hself : ∀ (t : Nat) (a1 : Int32) (a2 : Int32) (a3 : Int32) (a4 : Int32) (h w : ab_HP), (ab_shp t).1 = 5 → self t a1 a2 a3 a4 h = some w → ab_MET mX12_lines d 0 0 [va_rf (some t), .int a1, .int a2, .int a3, .int a4] h (ab_Pv w)) (ht0 : (ab_shp t0).1 = 5) (hf : f_X12_lines self t0 i1 i2 i3 i4 h = some r) : ab_T mX12_lines (d + 8) 0 0 0 0 0 [some (va_rf (some t0)), some (.int i1), some (.int i2), some (.int i3), some (.int i4), none, none] [] h (ab_Pv r) := by
  unfold f_X12_lines at hf
  refine ab_aload_n (x := _) (pc2 := 1) dX12_lines_0 rfl rfl ?_
  refine ab_getR (pc2 := 4) rfl ht0 fa_X12_25 dX12_lines_1 rfl (fun T1 => ?_)
  refine ab_iload_n (pc2 := 5) dX12_lines_4 rfl rfl ?_
  obtain ⟨q2, hq2, hf⟩ := ab_bind hf
  obtain ⟨b3, hf⟩ := ab_guard hf
  refine ab_iald (pc2 := 6) hq2 (T1 q2 hq2) (ab_in_vp b3) dX12_lines_5 rfl ?_
  refine ab_istore (pc2 := 8) (lo2 := [some (va_rf _), some (.int _), some (.int _), some (.int _), some (.int _), some (.int _), none]) dX12_lines_6 rfl (by decide) rfl ?_
  refine ab_iload_n (pc2 := 9) dX12_lines_8 rfl rfl ?_
  refine ab_iload (pc2 := 11) dX12_lines_9 rfl rfl ?_
  refine ab_icmp_ne (tgt := 138) (pc2 := 14) dX12_lines_11 (by decide) rfl hf (fun c4 hf => ?_) (fun c4 hf => ?_)
  · refine ab_iconst (pc2 := 139) (v := 0) dX12_lines_138 rfl ab_k_iconst_0 ?_
    refine ab_istore (pc2 := 141) (lo2 := [some (va_rf _), some (.int _), some (.int _), some (.int _), some (.int _), some (.int _), some (.int _)]) dX12_lines_139 rfl (by decide) rfl ?_
    exact ab_weak (x_X12_lines_l141 hself ht0 _ _ _ _ _ _ _ _ hf) (ab_leS (ab_leS (ab_leS (ab_leS (ab_leS (ab_leS (ab_leS ab_le0)))))))
  · refine ab_iconst (pc2 := 15) (v := 0) dX12_lines_14 rfl ab_k_iconst_0 ?_
    refine ab_istore (pc2 := 17) (lo2 := [some (va_rf _), some (.int _), some (.int _), some (.int _), some (.int _), some (.int _), some (.int _)]) dX12_lines_15 rfl (by decide) rfl ?_
    exact ab_weak (x_X12_lines_l17 hself ht0 _ _ _ _ _ _ hf) (ab_leS (ab_leS (ab_leN (ab_leN (ab_leS (ab_leS (ab_leS ab_le0)))))))
set_option maxHeartbeats 4000000 in
set_option maxRecDepth 100000 in
theorem m_X12_lines {d : Nat} {self : Nat → Int32 → Int32 → Int32 → Int32 → ab_HP → Option ab_HP} {t0 : Nat} {i1 : Int32} {i2 : Int32} {i3 : Int32} {i4 : Int32} {h : ab_HP} {r : ab_HP} (hself : ∀ (t : Nat) (a1 : Int32) (a2 : Int32) (a3 : Int32) (a4 : Int32) (h w : ab_HP), (ab_shp t).1 = 5 → self t a1 a2 a3 a4 h = some w → ab_MET mX12_lines d 0 0 [va_rf (some t), .int a1, .int a2, .int a3, .int a4] h (ab_Pv w)) (ht0 : (ab_shp t0).1 = 5) (hf : f_X12_lines self t0 i1 i2 i3 i4 h = some r) : ab_MET mX12_lines (d + 8) 0 0 [va_rf (some t0), .int i1, .int i2, .int i3, .int i4] h (ab_Pv r) := ab_met (by decide +kernel) (by decide +kernel) (Nat.le_of_ble_eq_true rfl) rfl (x_X12_lines hself ht0 hf)
set_option maxHeartbeats 4000000 in
set_option maxRecDepth 100000 in
theorem m_X12_lines_rec (n : Nat) {d : Nat} : ∀ {t0 : Nat} {i1 : Int32} {i2 : Int32} {i3 : Int32} {i4 : Int32} {h w : ab_HP}, (ab_shp t0).1 = 5 → f_X12_lines_rec n t0 i1 i2 i3 i4 h = some w → ab_MET mX12_lines (d + n * 8) 0 0 [va_rf (some t0), .int i1, .int i2, .int i3, .int i4] h (ab_Pv w) := by
  induction n with
  | zero => intro t0 i1 i2 i3 i4 h w ht hf; cases hf
  | succ n ih =>
    intro t0 i1 i2 i3 i4 h w ht hf
    rw [show d + (n + 1) * 8 = d + n * 8 + 8 by omega]
    exact m_X12_lines (d := d + n * 8) (fun _ _ _ _ _ _ _ g1 g2 => ih g1 g2) ht hf
set_option maxHeartbeats 4000000 in
set_option maxRecDepth 100000 in
theorem x_X12_free_b57 {d : Nat} {t0 : Nat} {i1 : Int32} {i2 : Int32} {i3 : Int32} {i4 : Int32} {h : ab_HP} {r : (Int32 × ab_HP)} (ht0 : (ab_shp t0).1 = 5) (hf : f_X12_free_b57 t0 i1 i2 i3 i4 h = some r) : ab_T mX12_free (d + 57) 0 0 0 0 57 [some (va_rf (some t0)), some (.int i1), some (.int i2), some (.int i3), some (.int i4)] [] h (ab_Pi r.1 r.2) := by
  unfold f_X12_free_b57 at hf
  refine ab_iload (pc2 := 59) dX12_free_57 rfl rfl ?_
  refine ab_if_eq (tgt := 65) (pc2 := 62) dX12_free_59 (by decide) rfl hf (fun c16 hf => ?_) (fun c16 hf => ?_)
  · refine ab_aload_n (x := _) (pc2 := 66) dX12_free_65 rfl rfl ?_
    refine ab_iload_n (pc2 := 67) dX12_free_66 rfl rfl ?_
    refine ab_iconst (pc2 := 68) (v := 0) dX12_free_67 rfl ab_k_iconst_0 ?_
    obtain ⟨w17, ew17, hf⟩ := ab_bind hf
    refine ab_callV (pc2 := 71) (st := []) rfl ht0 (by decide) (m_X12_lays (d := (d + 55)) ht0 ew17) mf_X12_lays tw_228 tw_227 ts_X12_lays (Or.inl (by decide +kernel)) dX12_free_68 rfl (by omega) (Nat.le_refl _) (Nat.le_refl _) rfl (Nat.le_of_ble_eq_true rfl) (fun v u hp => ?_)
    obtain ⟨rfl, rfl⟩ := hp
    show ab_T _ _ _ _ 0 0 71 _ ([]) _ _
    refine ab_aload_n (x := _) (pc2 := 72) dX12_free_71 rfl rfl ?_
    refine ab_bipush (pc2 := 74) (v := (-4)) dX12_free_72 rfl ab_k_bipush_m4 ?_
    have hf := ab_let_e hf
    refine ab_putI (pc2 := 77) rfl ht0 fa_X12_246 (Or.inl rfl) (fun z => by cases z) dX12_free_74 rfl ?_
    refine ab_aload_n (x := _) (pc2 := 78) dX12_free_77 rfl rfl ?_
    refine ab_iload_n (pc2 := 79) dX12_free_78 rfl rfl ?_
    refine ab_iconst (pc2 := 80) (v := 0) dX12_free_79 rfl ab_k_iconst_0 ?_
    refine ab_iconst (pc2 := 81) (v := 0) dX12_free_80 rfl ab_k_iconst_0 ?_
    refine ab_iload_n (pc2 := 82) dX12_free_81 rfl rfl ?_
    obtain ⟨w19, ew19, hf⟩ := ab_bind hf
    refine ab_callV (pc2 := 85) (st := []) rfl ht0 (by decide) (m_X12_lines_rec 7 (d := (d + 0)) ht0 ew19) mf_X12_lines tw_264 tw_263 ts_X12_lines (Or.inl (by decide +kernel)) dX12_free_82 rfl (by omega) (Nat.le_refl _) (Nat.le_refl _) rfl (Nat.le_of_ble_eq_true rfl) (fun v u hp => ?_)
    obtain ⟨rfl, rfl⟩ := hp
    show ab_T _ _ _ _ 0 0 85 _ ([]) _ _
    refine ab_aload_n (x := _) (pc2 := 86) dX12_free_85 rfl rfl ?_
    refine ab_getI (pc2 := 89) rfl ht0 fa_X12_246 (by decide) dX12_free_86 rfl ?_
    refine ab_if_ge (tgt := 97) (pc2 := 92) dX12_free_89 (by decide) rfl hf (fun c20 hf => ?_) (fun c20 hf => ?_)
    · refine ab_iload_n (pc2 := 98) dX12_free_97 rfl rfl ?_
      refine ab_if_ne (tgt := 108) (pc2 := 101) dX12_free_98 (by decide) rfl hf (fun c21 hf => ?_) (fun c21 hf => ?_)
      · refine ab_aload_n (x := _) (pc2 := 109) dX12_free_108 rfl rfl ?_
        refine ab_getI (pc2 := 112) rfl ht0 fa_X12_246 (by decide) dX12_free_109 rfl ?_
        cases Option.some.inj hf
        exact ab_retI dX12_free_112 (Or.inl rfl) (Nat.le_refl _) (Nat.le_refl _) ⟨rfl, rfl⟩
      · refine ab_aload_n (x := _) (pc2 := 102) dX12_free_101 rfl rfl ?_
        refine ab_getI (pc2 := 105) rfl ht0 fa_X12_249 (by decide) dX12_free_102 rfl ?_
        refine ab_goto (tgt := 112) dX12_free_105 (by decide) ?_
        cases Option.some.inj hf
        exact ab_retI dX12_free_112 (Or.inl rfl) (Nat.le_refl _) (Nat.le_refl _) ⟨rfl, rfl⟩
    · refine ab_bipush (pc2 := 94) (v := (-4)) dX12_free_92 rfl ab_k_bipush_m4 ?_
      refine ab_goto (tgt := 112) dX12_free_94 (by decide) ?_
      cases Option.some.inj hf
      exact ab_retI dX12_free_112 (Or.inl rfl) (Nat.le_refl _) (Nat.le_refl _) ⟨rfl, rfl⟩
  · refine ab_iload (pc2 := 64) dX12_free_62 rfl rfl ?_
    cases Option.some.inj hf
    exact ab_retI dX12_free_64 (Or.inl rfl) (Nat.le_refl _) (Nat.le_refl _) ⟨rfl, rfl⟩
set_option maxHeartbeats 4000000 in
set_option maxRecDepth 100000 in
theorem x_X12_free {d : Nat} {t0 : Nat} {i1 : Int32} {i2 : Int32} {i3 : Int32} {h : ab_HP} {r : (Int32 × ab_HP)} (ht0 : (ab_shp t0).1 = 5) (hf : f_X12_free t0 i1 i2 i3 h = some r) : ab_T mX12_free (d + 57) 0 0 0 0 0 [some (va_rf (some t0)), some (.int i1), some (.int i2), some (.int i3), none] [] h (ab_Pi r.1 r.2) := by
  unfold f_X12_free at hf
  refine ab_iload_n (pc2 := 1) dX12_free_0 rfl rfl ?_
  obtain ⟨w1, ew1, hf⟩ := ab_bind hf
  refine ab_callS (pc2 := 4) (st := []) (m_X12_isShelf (d := (d + 55)) ew1) mf_X12_isShelf tw_103 tw_104 dX12_free_1 rfl (by omega) (Nat.le_refl _) (Nat.le_refl _) rfl (Nat.le_of_ble_eq_true rfl) (fun v u hp => ?_)
  obtain ⟨rfl, rfl, z2⟩ := hp
  show ab_T _ _ _ _ 0 0 4 _ (.int _ :: []) _ _
  refine ab_if_eq (tgt := 29) (pc2 := 7) dX12_free_4 (by decide) rfl hf (fun c3 hf => ?_) (fun c3 hf => ?_)
  · refine ab_iconst (pc2 := 30) (v := (-1)) dX12_free_29 rfl ab_k_iconst_m1 ?_
    cases Option.some.inj hf
    exact ab_retI dX12_free_30 (Or.inl rfl) (Nat.le_refl _) (Nat.le_refl _) ⟨rfl, rfl⟩
  · refine ab_iload_n (pc2 := 8) dX12_free_7 rfl rfl ?_
    refine ab_i2l (pc2 := 9) dX12_free_8 rfl ?_
    refine ab_lconst (pc2 := 10) (v := 0) dX12_free_9 rfl rfl ?_
    refine ab_ldc2 (pc2 := 13) (v := 1023) dX12_free_10 rfl tw_248 ?_
    obtain ⟨w4, ew4, hf⟩ := ab_bind hf
    refine ab_callS (pc2 := 16) (st := []) (m_X12_isIn (d := (d + 56)) ew4) mf_X12_isIn tw_101 tw_102 dX12_free_13 rfl (by omega) (Nat.le_refl _) (Nat.le_refl _) rfl (Nat.le_of_ble_eq_true rfl) (fun v u hp => ?_)
    obtain ⟨rfl, rfl, z5⟩ := hp
    show ab_T _ _ _ _ 0 0 16 _ (.int _ :: []) _ _
    refine ab_if_eq (tgt := 29) (pc2 := 19) dX12_free_16 (by decide) rfl hf (fun c6 hf => ?_) (fun c6 hf => ?_)
    · refine ab_iconst (pc2 := 30) (v := (-1)) dX12_free_29 rfl ab_k_iconst_m1 ?_
      cases Option.some.inj hf
      exact ab_retI dX12_free_30 (Or.inl rfl) (Nat.le_refl _) (Nat.le_refl _) ⟨rfl, rfl⟩
    · refine ab_iload_n (pc2 := 20) dX12_free_19 rfl rfl ?_
      refine ab_i2l (pc2 := 21) dX12_free_20 rfl ?_
      refine ab_lconst (pc2 := 22) (v := 0) dX12_free_21 rfl rfl ?_
      refine ab_lconst (pc2 := 23) (v := 1) dX12_free_22 rfl rfl ?_
      obtain ⟨w7, ew7, hf⟩ := ab_bind hf
      refine ab_callS (pc2 := 26) (st := []) (m_X12_isIn (d := (d + 56)) ew7) mf_X12_isIn tw_101 tw_102 dX12_free_23 rfl (by omega) (Nat.le_refl _) (Nat.le_refl _) rfl (Nat.le_of_ble_eq_true rfl) (fun v u hp => ?_)
      obtain ⟨rfl, rfl, z8⟩ := hp
      show ab_T _ _ _ _ 0 0 26 _ (.int _ :: []) _ _
      refine ab_if_ne (tgt := 31) (pc2 := 29) dX12_free_26 (by decide) rfl hf (fun c9 hf => ?_) (fun c9 hf => ?_)
      · refine ab_aload_n (x := _) (pc2 := 32) dX12_free_31 rfl rfl ?_
        refine ab_iload_n (pc2 := 33) dX12_free_32 rfl rfl ?_
        obtain ⟨w10, ew10, hf⟩ := ab_bind hf
        refine ab_callV (pc2 := 36) (st := []) rfl ht0 (by decide) (m_X12_wrongList (d := (d + 53)) ht0 ew10) mf_X12_wrongList tw_226 tw_225 ts_X12_wrongList (Or.inl (by decide +kernel)) dX12_free_33 rfl (by omega) (Nat.le_refl _) (Nat.le_refl _) rfl (Nat.le_of_ble_eq_true rfl) (fun v u hp => ?_)
        obtain ⟨rfl, rfl⟩ := hp
        show ab_T _ _ _ _ 0 0 36 _ (.int _ :: []) _ _
        refine ab_istore (pc2 := 38) (lo2 := [some (va_rf _), some (.int _), some (.int _), some (.int _), some (.int _)]) dX12_free_36 rfl (by decide) rfl ?_
        refine ab_iload (pc2 := 40) dX12_free_38 rfl rfl ?_
        refine ab_if_ne (tgt := 57) (pc2 := 43) dX12_free_40 (by decide) rfl hf (fun c11 hf => ?_) (fun c11 hf => ?_)
        · exact ab_weak (x_X12_free_b57 ht0 hf) (ab_leS (ab_leS (ab_leS (ab_leS (ab_leS ab_le0)))))
        · refine ab_aload_n (x := _) (pc2 := 44) dX12_free_43 rfl rfl ?_
          refine ab_getR (pc2 := 47) rfl ht0 fa_X12_25 dX12_free_44 rfl (fun T12 => ?_)
          refine ab_iload_n (pc2 := 48) dX12_free_47 rfl rfl ?_
          obtain ⟨q13, hq13, hf⟩ := ab_bind hf
          obtain ⟨b14, hf⟩ := ab_guard hf
          refine ab_iald (pc2 := 49) hq13 (T12 q13 hq13) (ab_in_vp b14) dX12_free_48 rfl ?_
          refine ab_iconst (pc2 := 50) (v := 5) dX12_free_49 rfl ab_k_iconst_5 ?_
          refine ab_icmp_le (tgt := 57) (pc2 := 53) dX12_free_50 (by decide) rfl hf (fun c15 hf => ?_) (fun c15 hf => ?_)
          · exact ab_weak (x_X12_free_b57 ht0 hf) (ab_leS (ab_leS (ab_leS (ab_leS (ab_leS ab_le0)))))
          · refine ab_bipush (pc2 := 55) (v := (-13)) dX12_free_53 rfl ab_k_bipush_m13 ?_
            refine ab_istore (pc2 := 57) (lo2 := [some (va_rf _), some (.int _), some (.int _), some (.int _), some (.int _)]) dX12_free_55 rfl (by decide) rfl ?_
            exact ab_weak (x_X12_free_b57 ht0 hf) (ab_leS (ab_leS (ab_leS (ab_leS (ab_leS ab_le0)))))
      · refine ab_iconst (pc2 := 30) (v := (-1)) dX12_free_29 rfl ab_k_iconst_m1 ?_
        cases Option.some.inj hf
        exact ab_retI dX12_free_30 (Or.inl rfl) (Nat.le_refl _) (Nat.le_refl _) ⟨rfl, rfl⟩
set_option maxHeartbeats 4000000 in
set_option maxRecDepth 100000 in
theorem m_X12_free {d : Nat} {t0 : Nat} {i1 : Int32} {i2 : Int32} {i3 : Int32} {h : ab_HP} {r : (Int32 × ab_HP)} (ht0 : (ab_shp t0).1 = 5) (hf : f_X12_free t0 i1 i2 i3 h = some r) : ab_MET mX12_free (d + 57) 0 0 [va_rf (some t0), .int i1, .int i2, .int i3] h (ab_Pi r.1 r.2) := ab_met (by decide +kernel) (by decide +kernel) (Nat.le_of_ble_eq_true rfl) rfl (x_X12_free ht0 hf)
set_option maxHeartbeats 4000000 in
set_option maxRecDepth 100000 in
theorem x_X12_worthOf_l5 {d : Nat} {t0 : Nat} {r : Int64} (ht0 : (ab_shp t0).1 = 5) : ∀ (n : Nat) (i1 : Int32) (i2 : Int64) (i4 : Int32) (h : ab_HP), f_X12_worthOf_l5 t0 n i1 i2 i4 h = some r → ab_T mX12_worthOf (d + 0) 0 0 0 0 5 [some (va_rf (some t0)), some (.int i1), some (.long i2), none, some (.int i4)] [] h (ab_Pl r h) := by
  intro n
  induction n with
  | zero =>
    intro i1 i2 i4 h hf
    rw [f_X12_worthOf_l5] at hf
    cases hf
  | succ n ih =>
    intro i1 i2 i4 h hf
    rw [f_X12_worthOf_l5] at hf
    refine ab_iload (pc2 := 7) dX12_worthOf_5 rfl rfl ?_
    refine ab_bipush (pc2 := 9) (v := 10) dX12_worthOf_7 rfl ab_k_bipush_10 ?_
    refine ab_icmp_ge (tgt := 51) (pc2 := 12) dX12_worthOf_9 (by decide) rfl hf (fun c1 hf => ?_) (fun c1 hf => ?_)
    · refine ab_lload_n (pc2 := 52) dX12_worthOf_51 rfl rfl ?_
      cases Option.some.inj hf
      exact ab_retL dX12_worthOf_52 rfl (Nat.le_refl _) (Nat.le_refl _) ⟨rfl, rfl⟩
    · refine ab_lload_n (pc2 := 13) dX12_worthOf_12 rfl rfl ?_
      refine ab_iload_n (pc2 := 14) dX12_worthOf_13 rfl rfl ?_
      refine ab_iload (pc2 := 16) dX12_worthOf_14 rfl rfl ?_
      refine ab_ishr (pc2 := 17) dX12_worthOf_16 rfl ?_
      refine ab_iconst (pc2 := 18) (v := 1) dX12_worthOf_17 rfl ab_k_iconst_1 ?_
      refine ab_iand (pc2 := 19) dX12_worthOf_18 rfl ?_
      refine ab_iconst (pc2 := 20) (v := 1) dX12_worthOf_19 rfl ab_k_iconst_1 ?_
      refine ab_icmp_ne (tgt := 42) (pc2 := 23) dX12_worthOf_20 (by decide) rfl hf (fun c2 hf => ?_) (fun c2 hf => ?_)
      · refine ab_lconst (pc2 := 43) (v := 0) dX12_worthOf_42 rfl rfl ?_
        refine ab_ladd (pc2 := 44) dX12_worthOf_43 rfl ?_
        refine ab_lstore_n (pc2 := 45) (lo2 := [some (va_rf _), some (.int _), some (.long _), none, some (.int _)]) dX12_worthOf_44 rfl (by decide) rfl ?_
        refine ab_iinc (pc2 := 48) (v := _ + 1) (lo2 := [some (va_rf _), some (.int _), some (.long _), none, some (.int _)]) dX12_worthOf_45 rfl rfl rfl (by decide) rfl ?_
        refine ab_goto (tgt := 5) dX12_worthOf_48 (by decide) ?_
        exact ab_weak (ih _ _ _ _ hf) (ab_leS (ab_leS (ab_leS (ab_leN (ab_leS ab_le0)))))
      · refine ab_aload_n (x := _) (pc2 := 24) dX12_worthOf_23 rfl rfl ?_
        refine ab_getR (pc2 := 27) rfl ht0 fa_X12_28 dX12_worthOf_24 rfl (fun T3 => ?_)
        refine ab_bipush (pc2 := 29) (v := 100) dX12_worthOf_27 rfl ab_k_bipush_100 ?_
        refine ab_aload_n (x := _) (pc2 := 30) dX12_worthOf_29 rfl rfl ?_
        refine ab_getI (pc2 := 33) rfl ht0 fa_X12_256 (by decide) dX12_worthOf_30 rfl ?_
        refine ab_imul (pc2 := 34) dX12_worthOf_33 rfl ?_
        refine ab_iload (pc2 := 36) dX12_worthOf_34 rfl rfl ?_
        refine ab_iadd (pc2 := 37) dX12_worthOf_36 rfl ?_
        obtain ⟨q4, hq4, hf⟩ := ab_bind hf
        obtain ⟨b5, hf⟩ := ab_guard hf
        refine ab_iald (pc2 := 38) hq4 (T3 q4 hq4) (ab_in_vp b5) dX12_worthOf_37 rfl ?_
        refine ab_i2l (pc2 := 39) dX12_worthOf_38 rfl ?_
        refine ab_goto (tgt := 43) dX12_worthOf_39 (by decide) ?_
        refine ab_ladd (pc2 := 44) dX12_worthOf_43 rfl ?_
        have hf := ab_let_e hf
        refine ab_lstore_n (pc2 := 45) (lo2 := [some (va_rf _), some (.int _), some (.long _), none, some (.int _)]) dX12_worthOf_44 rfl (by decide) rfl ?_
        refine ab_iinc (pc2 := 48) (v := _ + 1) (lo2 := [some (va_rf _), some (.int _), some (.long _), none, some (.int _)]) dX12_worthOf_45 rfl rfl rfl (by decide) rfl ?_
        refine ab_goto (tgt := 5) dX12_worthOf_48 (by decide) ?_
        exact ab_weak (ih _ _ _ _ hf) (ab_leS (ab_leS (ab_leS (ab_leN (ab_leS ab_le0)))))
set_option maxHeartbeats 4000000 in
set_option maxRecDepth 100000 in
theorem x_X12_worthOf {d : Nat} {t0 : Nat} {i1 : Int32} {h : ab_HP} {r : Int64} (ht0 : (ab_shp t0).1 = 5) (hf : f_X12_worthOf t0 i1 h = some r) : ab_T mX12_worthOf (d + 0) 0 0 0 0 0 [some (va_rf (some t0)), some (.int i1), none, none, none] [] h (ab_Pl r h) := by
  unfold f_X12_worthOf at hf
  refine ab_lconst (pc2 := 1) (v := 0) dX12_worthOf_0 rfl rfl ?_
  refine ab_lstore_n (pc2 := 2) (lo2 := [some (va_rf _), some (.int _), some (.long _), none, none]) dX12_worthOf_1 rfl (by decide) rfl ?_
  refine ab_iconst (pc2 := 3) (v := 0) dX12_worthOf_2 rfl ab_k_iconst_0 ?_
  refine ab_istore (pc2 := 5) (lo2 := [some (va_rf _), some (.int _), some (.long _), none, some (.int _)]) dX12_worthOf_3 rfl (by decide) rfl ?_
  exact ab_weak (x_X12_worthOf_l5 ht0 _ _ _ _ _ hf) (ab_leS (ab_leS (ab_leS (ab_leN (ab_leS ab_le0)))))
set_option maxHeartbeats 4000000 in
set_option maxRecDepth 100000 in
theorem m_X12_worthOf {d : Nat} {t0 : Nat} {i1 : Int32} {h : ab_HP} {r : Int64} (ht0 : (ab_shp t0).1 = 5) (hf : f_X12_worthOf t0 i1 h = some r) : ab_MET mX12_worthOf (d + 0) 0 0 [va_rf (some t0), .int i1] h (ab_Pl r h) := ab_met (by decide +kernel) (by decide +kernel) (Nat.le_of_ble_eq_true rfl) rfl (x_X12_worthOf ht0 hf)
set_option maxHeartbeats 4000000 in
set_option maxRecDepth 100000 in
theorem x_X12_tries_b152 {d : Nat} {k3 : Int32 → Int32 → Int32 → Int32 → Int32 → Int32 → Int32 → Int32 → ab_HP → Option ab_HP} {self : Nat → Int32 → Int32 → Int32 → Int32 → ab_HP → Option ab_HP} {t0 : Nat} {i1 : Int32} {i2 : Int32} {i3 : Int32} {i4 : Int32} {i5 : Int32} {i6 : Int32} {i7 : Int32} {i8 : Int32} {i9 : Int32} {i10 : Int64} {h : ab_HP} {r : ab_HP} (hself : ∀ (t : Nat) (a1 : Int32) (a2 : Int32) (a3 : Int32) (a4 : Int32) (h w : ab_HP), (ab_shp t).1 = 5 → self t a1 a2 a3 a4 h = some w → ab_MET mX12_plans d 0 0 [va_rf (some t), .int a1, .int a2, .int a3, .int a4] h (ab_Pv w)) (ht0 : (ab_shp t0).1 = 5) (hk3 : ∀ (i1 : Int32) (i2 : Int32) (i3 : Int32) (i4 : Int32) (i5 : Int32) (i6 : Int32) (i7 : Int32) (i8 : Int32) (h : ab_HP), k3 i1 i2 i3 i4 i5 i6 i7 i8 h = some r → ab_T mX12_tries (d + 7) 0 0 0 0 3 [some (va_rf (some t0)), some (.int i1), some (.int i2), some (.int i3), some (.int i4), some (.int i5), some (.int i6), some (.int i7), some (.int i8), none, none, none] [] h (ab_Pv r)) (hf : f_X12_tries_b152 k3 self t0 i1 i2 i3 i4 i5 i6 i7 i8 i9 i10 h = some r) : ab_T mX12_tries (d + 7) 0 0 0 0 152 [some (va_rf (some t0)), some (.int i1), some (.int i2), some (.int i3), some (.int i4), some (.int i5), some (.int i6), some (.int i7), some (.int i8), some (.int i9), some (.long i10), none] [] h (ab_Pv r) := by
  unfold f_X12_tries_b152 at hf
  refine ab_aload_n (x := _) (pc2 := 153) dX12_tries_152 rfl rfl ?_
  refine ab_iconst (pc2 := 154) (v := 1) dX12_tries_153 rfl ab_k_iconst_1 ?_
  have hf := ab_let_e hf
  refine ab_putI (pc2 := 157) rfl ht0 fa_X12_266 (Or.inr ⟨rfl, (Or.inr rfl)⟩) (fun z => by cases z) dX12_tries_154 rfl ?_
  refine ab_aload_n (x := _) (pc2 := 158) dX12_tries_157 rfl rfl ?_
  refine ab_lload (pc2 := 160) dX12_tries_158 rfl rfl ?_
  have hf := ab_let_e hf
  refine ab_putL (pc2 := 163) rfl ht0 fa_X12_270 (fun z => by cases z) dX12_tries_160 rfl ?_
  refine ab_aload_n (x := _) (pc2 := 164) dX12_tries_163 rfl rfl ?_
  refine ab_iload (pc2 := 166) dX12_tries_164 rfl rfl ?_
  have hf := ab_let_e hf
  refine ab_putI (pc2 := 169) rfl ht0 fa_X12_274 (Or.inl rfl) (fun z => by cases z) dX12_tries_166 rfl ?_
  refine ab_iinc (pc2 := 172) (v := _ + 1) (lo2 := [some (va_rf _), some (.int _), some (.int _), some (.int _), some (.int _), some (.int _), some (.int _), some (.int _), some (.int _), some (.int _), some (.long _), none]) dX12_tries_169 rfl rfl rfl (by decide) rfl ?_
  refine ab_goto (tgt := 3) dX12_tries_172 (by decide) ?_
  exact ab_weak (hk3 _ _ _ _ _ _ _ _ _ hf) (ab_leS (ab_leS (ab_leS (ab_leS (ab_leS (ab_leS (ab_leS (ab_leS (ab_leS (ab_leN (ab_leN (ab_leN ab_le0))))))))))))
set_option maxHeartbeats 4000000 in
set_option maxRecDepth 100000 in
theorem x_X12_tries_l3 {d : Nat} {self : Nat → Int32 → Int32 → Int32 → Int32 → ab_HP → Option ab_HP} {t0 : Nat} {r : ab_HP} (hself : ∀ (t : Nat) (a1 : Int32) (a2 : Int32) (a3 : Int32) (a4 : Int32) (h w : ab_HP), (ab_shp t).1 = 5 → self t a1 a2 a3 a4 h = some w → ab_MET mX12_plans d 0 0 [va_rf (some t), .int a1, .int a2, .int a3, .int a4] h (ab_Pv w)) (ht0 : (ab_shp t0).1 = 5) : ∀ (n : Nat) (i1 : Int32) (i2 : Int32) (i3 : Int32) (i4 : Int32) (i5 : Int32) (i6 : Int32) (i7 : Int32) (i8 : Int32) (h : ab_HP), f_X12_tries_l3 self t0 n i1 i2 i3 i4 i5 i6 i7 i8 h = some r → ab_T mX12_tries (d + 7) 0 0 0 0 3 [some (va_rf (some t0)), some (.int i1), some (.int i2), some (.int i3), some (.int i4), some (.int i5), some (.int i6), some (.int i7), some (.int i8), none, none, none] [] h (ab_Pv r) := by
  intro n
  induction n with
  | zero =>
    intro i1 i2 i3 i4 i5 i6 i7 i8 h hf
    rw [f_X12_tries_l3] at hf
    cases hf
  | succ n ih =>
    intro i1 i2 i3 i4 i5 i6 i7 i8 h hf
    rw [f_X12_tries_l3] at hf
    refine ab_iload (pc2 := 5) dX12_tries_3 rfl rfl ?_
    refine ab_iconst (pc2 := 6) (v := 1) dX12_tries_5 rfl ab_k_iconst_1 ?_
    refine ab_iload_n (pc2 := 7) dX12_tries_6 rfl rfl ?_
    refine ab_ishl (pc2 := 8) dX12_tries_7 rfl ?_
    refine ab_icmp_ge (tgt := 175) (pc2 := 11) dX12_tries_8 (by decide) rfl hf (fun c1 hf => ?_) (fun c1 hf => ?_)
    · cases Option.some.inj hf
      exact ab_retV dX12_tries_175 rfl (Nat.le_refl _) (Nat.le_refl _) ⟨rfl, rfl⟩
    · refine ab_aload_n (x := _) (pc2 := 12) dX12_tries_11 rfl rfl ?_
      refine ab_iload_n (pc2 := 13) dX12_tries_12 rfl rfl ?_
      have hf := ab_let_e hf
      refine ab_putI (pc2 := 16) rfl ht0 fa_X12_166 (Or.inl rfl) (fun z => by cases z) dX12_tries_13 rfl ?_
      refine ab_aload_n (x := _) (pc2 := 17) dX12_tries_16 rfl rfl ?_
      refine ab_getR (pc2 := 20) rfl ht0 fa_X12_40 dX12_tries_17 rfl (fun T3 => ?_)
      refine ab_iconst (pc2 := 21) (v := 0) dX12_tries_20 rfl ab_k_iconst_0 ?_
      refine ab_iload (pc2 := 23) dX12_tries_21 rfl rfl ?_
      obtain ⟨q4, hq4, hf⟩ := ab_bind hf
      obtain ⟨b5, hf⟩ := ab_guard hf
      have hf := ab_let_e hf
      refine ab_iast (pc2 := 24) hq4 (T3 q4 hq4) (ab_in_vp b5) dX12_tries_23 rfl ?_
      refine ab_aload_n (x := _) (pc2 := 25) dX12_tries_24 rfl rfl ?_
      refine ab_getR (pc2 := 28) rfl ht0 fa_X12_40 dX12_tries_25 rfl (fun T7 => ?_)
      refine ab_iconst (pc2 := 29) (v := 1) dX12_tries_28 rfl ab_k_iconst_1 ?_
      refine ab_iload (pc2 := 31) dX12_tries_29 rfl rfl ?_
      obtain ⟨q8, hq8, hf⟩ := ab_bind hf
      obtain ⟨b9, hf⟩ := ab_guard hf
      have hf := ab_let_e hf
      refine ab_iast (pc2 := 32) hq8 (T7 q8 hq8) (ab_in_vp b9) dX12_tries_31 rfl ?_
      refine ab_aload_n (x := _) (pc2 := 33) dX12_tries_32 rfl rfl ?_
      refine ab_iload (pc2 := 35) dX12_tries_33 rfl rfl ?_
      have hf := ab_let_e hf
      refine ab_putI (pc2 := 38) rfl ht0 fa_X12_169 (Or.inl rfl) (fun z => by cases z) dX12_tries_35 rfl ?_
      refine ab_aload_n (x := _) (pc2 := 39) dX12_tries_38 rfl rfl ?_
      refine ab_iload (pc2 := 41) dX12_tries_39 rfl rfl ?_
      have hf := ab_let_e hf
      refine ab_putI (pc2 := 44) rfl ht0 fa_X12_175 (Or.inl rfl) (fun z => by cases z) dX12_tries_41 rfl ?_
      refine ab_aload_n (x := _) (pc2 := 45) dX12_tries_44 rfl rfl ?_
      refine ab_iload (pc2 := 47) dX12_tries_45 rfl rfl ?_
      have hf := ab_let_e hf
      refine ab_putI (pc2 := 50) rfl ht0 fa_X12_178 (Or.inl rfl) (fun z => by cases z) dX12_tries_47 rfl ?_
      refine ab_aload_n (x := _) (pc2 := 51) dX12_tries_50 rfl rfl ?_
      obtain ⟨w14, ew14, hf⟩ := ab_bind hf
      refine ab_callV (pc2 := 54) (st := []) rfl ht0 (by decide) (m_X12_pairOf (d := (d + 0)) ht0 ew14) mf_X12_pairOf tw_230 tw_229 ts_X12_pairOf (Or.inl (by decide +kernel)) dX12_tries_51 rfl (by omega) (Nat.le_refl _) (Nat.le_refl _) rfl (Nat.le_of_ble_eq_true rfl) (fun v u hp => ?_)
      obtain ⟨rfl, rfl⟩ := hp
      show ab_T _ _ _ _ 0 0 54 _ ([]) _ _
      refine ab_iload_n (pc2 := 55) dX12_tries_54 rfl rfl ?_
      refine ab_if_lt (tgt := 62) (pc2 := 58) dX12_tries_55 (by decide) rfl hf (fun c15 hf => ?_) (fun c15 hf => ?_)
      · refine ab_bipush (pc2 := 64) (v := 100) dX12_tries_62 rfl ab_k_bipush_100 ?_
        refine ab_iload (pc2 := 66) dX12_tries_64 rfl rfl ?_
        refine ab_imul (pc2 := 67) dX12_tries_66 rfl ?_
        refine ab_bipush (pc2 := 69) (v := 10) dX12_tries_67 rfl ab_k_bipush_10 ?_
        refine ab_iload_n (pc2 := 70) dX12_tries_69 rfl rfl ?_
        refine ab_if_le (tgt := 78) (pc2 := 73) dX12_tries_70 (by decide) rfl hf (fun c16 hf => ?_) (fun c16 hf => ?_)
        · refine ab_bipush (pc2 := 80) (v := 9) dX12_tries_78 rfl ab_k_bipush_9 ?_
          refine ab_imul (pc2 := 81) dX12_tries_80 rfl ?_
          refine ab_iadd (pc2 := 82) dX12_tries_81 rfl ?_
          refine ab_iload_n (pc2 := 83) dX12_tries_82 rfl rfl ?_
          refine ab_iconst (pc2 := 84) (v := 1) dX12_tries_83 rfl ab_k_iconst_1 ?_
          refine ab_icmp_le (tgt := 92) (pc2 := 87) dX12_tries_84 (by decide) rfl hf (fun c17 hf => ?_) (fun c17 hf => ?_)
          · refine ab_bipush (pc2 := 94) (v := 9) dX12_tries_92 rfl ab_k_bipush_9 ?_
            refine ab_iadd (pc2 := 95) dX12_tries_94 rfl ?_
            have hf := ab_let_e hf
            refine ab_istore (pc2 := 97) (lo2 := [some (va_rf _), some (.int _), some (.int _), some (.int _), some (.int _), some (.int _), some (.int _), some (.int _), some (.int _), some (.int _), none, none]) dX12_tries_95 rfl (by decide) rfl ?_
            refine ab_iload_n (pc2 := 98) dX12_tries_97 rfl rfl ?_
            refine ab_iconst (pc2 := 99) (v := 1) dX12_tries_98 rfl ab_k_iconst_1 ?_
            refine ab_icmp_le (tgt := 122) (pc2 := 102) dX12_tries_99 (by decide) rfl hf (fun c19 hf => ?_) (fun c19 hf => ?_)
            · refine ab_aload_n (x := _) (pc2 := 123) dX12_tries_122 rfl rfl ?_
              refine ab_aload_n (x := _) (pc2 := 124) dX12_tries_123 rfl rfl ?_
              refine ab_getI (pc2 := 127) rfl ht0 fa_X12_175 (by decide) dX12_tries_124 rfl ?_
              obtain ⟨w20, ew20, hf⟩ := ab_bind hf
              refine ab_callV (pc2 := 130) (st := []) rfl ht0 (by decide) (m_X12_worthOf (d := (d + 6)) ht0 ew20) mf_X12_worthOf tw_288 tw_287 ts_X12_worthOf (Or.inl (by decide +kernel)) dX12_tries_127 rfl (by omega) (Nat.le_refl _) (Nat.le_refl _) rfl (Nat.le_of_ble_eq_true rfl) (fun v u hp => ?_)
              obtain ⟨rfl, rfl⟩ := hp
              show ab_T _ _ _ _ 0 0 130 _ (.long _ :: []) _ _
              refine ab_lstore (pc2 := 132) (lo2 := [some (va_rf _), some (.int _), some (.int _), some (.int _), some (.int _), some (.int _), some (.int _), some (.int _), some (.int _), some (.int _), some (.long _), none]) dX12_tries_130 rfl (by decide) rfl ?_
              refine ab_aload_n (x := _) (pc2 := 133) dX12_tries_132 rfl rfl ?_
              refine ab_getI (pc2 := 136) rfl ht0 fa_X12_266 (by decide) dX12_tries_133 rfl ?_
              refine ab_if_eq (tgt := 152) (pc2 := 139) dX12_tries_136 (by decide) rfl hf (fun c21 hf => ?_) (fun c21 hf => ?_)
              · exact ab_weak (x_X12_tries_b152 hself ht0 ih hf) (ab_leS (ab_leS (ab_leS (ab_leS (ab_leS (ab_leS (ab_leS (ab_leS (ab_leS (ab_leS (ab_leS (ab_leN ab_le0))))))))))))
              · refine ab_lload (pc2 := 141) dX12_tries_139 rfl rfl ?_
                refine ab_aload_n (x := _) (pc2 := 142) dX12_tries_141 rfl rfl ?_
                refine ab_getL (pc2 := 145) rfl ht0 fa_X12_270 dX12_tries_142 rfl ?_
                refine ab_lcmp (pc2 := 146) dX12_tries_145 rfl ?_
                refine ab_if_gt (tgt := 152) (pc2 := 149) dX12_tries_146 (by decide) rfl hf (fun c22 hf => ?_) (fun c22 hf => ?_)
                · exact ab_weak (x_X12_tries_b152 hself ht0 ih hf) (ab_leS (ab_leS (ab_leS (ab_leS (ab_leS (ab_leS (ab_leS (ab_leS (ab_leS (ab_leS (ab_leS (ab_leN ab_le0))))))))))))
                · refine ab_goto (tgt := 169) dX12_tries_149 (by decide) ?_
                  refine ab_iinc (pc2 := 172) (v := _ + 1) (lo2 := [some (va_rf _), some (.int _), some (.int _), some (.int _), some (.int _), some (.int _), some (.int _), some (.int _), some (.int _), some (.int _), some (.long _), none]) dX12_tries_169 rfl rfl rfl (by decide) rfl ?_
                  refine ab_goto (tgt := 3) dX12_tries_172 (by decide) ?_
                  exact ab_weak (ih _ _ _ _ _ _ _ _ _ hf) (ab_leS (ab_leS (ab_leS (ab_leS (ab_leS (ab_leS (ab_leS (ab_leS (ab_leS (ab_leN (ab_leN (ab_leN ab_le0))))))))))))
            · refine ab_aload_n (x := _) (pc2 := 103) dX12_tries_102 rfl rfl ?_
              refine ab_iload_n (pc2 := 104) dX12_tries_103 rfl rfl ?_
              refine ab_iconst (pc2 := 105) (v := 1) dX12_tries_104 rfl ab_k_iconst_1 ?_
              refine ab_isub (pc2 := 106) dX12_tries_105 rfl ?_
              refine ab_iload (pc2 := 108) dX12_tries_106 rfl rfl ?_
              refine ab_aload_n (x := _) (pc2 := 109) dX12_tries_108 rfl rfl ?_
              refine ab_getI (pc2 := 112) rfl ht0 fa_X12_175 (by decide) dX12_tries_109 rfl ?_
              refine ab_aload_n (x := _) (pc2 := 113) dX12_tries_112 rfl rfl ?_
              refine ab_getI (pc2 := 116) rfl ht0 fa_X12_178 (by decide) dX12_tries_113 rfl ?_
              obtain ⟨w23, ew23, hf⟩ := ab_bind hf
              refine ab_callV (pc2 := 119) (st := []) rfl ht0 (by decide) (hself _ _ _ _ _ _ _ ht0 ew23) mf_X12_plans tw_290 tw_289 ts_X12_plans (Or.inl (by decide +kernel)) dX12_tries_116 rfl (by omega) (Nat.le_refl _) (Nat.le_refl _) rfl (Nat.le_of_ble_eq_true rfl) (fun v u hp => ?_)
              obtain ⟨rfl, rfl⟩ := hp
              show ab_T _ _ _ _ 0 0 119 _ ([]) _ _
              refine ab_goto (tgt := 169) dX12_tries_119 (by decide) ?_
              refine ab_iinc (pc2 := 172) (v := _ + 1) (lo2 := [some (va_rf _), some (.int _), some (.int _), some (.int _), some (.int _), some (.int _), some (.int _), some (.int _), some (.int _), some (.int _), none, none]) dX12_tries_169 rfl rfl rfl (by decide) rfl ?_
              refine ab_goto (tgt := 3) dX12_tries_172 (by decide) ?_
              exact ab_weak (ih _ _ _ _ _ _ _ _ _ hf) (ab_leS (ab_leS (ab_leS (ab_leS (ab_leS (ab_leS (ab_leS (ab_leS (ab_leS (ab_leN (ab_leN (ab_leN ab_le0))))))))))))
          · refine ab_iload (pc2 := 89) dX12_tries_87 rfl rfl ?_
            refine ab_goto (tgt := 94) dX12_tries_89 (by decide) ?_
            refine ab_iadd (pc2 := 95) dX12_tries_94 rfl ?_
            have hf := ab_let_e hf
            refine ab_istore (pc2 := 97) (lo2 := [some (va_rf _), some (.int _), some (.int _), some (.int _), some (.int _), some (.int _), some (.int _), some (.int _), some (.int _), some (.int _), none, none]) dX12_tries_95 rfl (by decide) rfl ?_
            refine ab_iload_n (pc2 := 98) dX12_tries_97 rfl rfl ?_
            refine ab_iconst (pc2 := 99) (v := 1) dX12_tries_98 rfl ab_k_iconst_1 ?_
            refine ab_icmp_le (tgt := 122) (pc2 := 102) dX12_tries_99 (by decide) rfl hf (fun c25 hf => ?_) (fun c25 hf => ?_)
            · refine ab_aload_n (x := _) (pc2 := 123) dX12_tries_122 rfl rfl ?_
              refine ab_aload_n (x := _) (pc2 := 124) dX12_tries_123 rfl rfl ?_
              refine ab_getI (pc2 := 127) rfl ht0 fa_X12_175 (by decide) dX12_tries_124 rfl ?_
              obtain ⟨w26, ew26, hf⟩ := ab_bind hf
              refine ab_callV (pc2 := 130) (st := []) rfl ht0 (by decide) (m_X12_worthOf (d := (d + 6)) ht0 ew26) mf_X12_worthOf tw_288 tw_287 ts_X12_worthOf (Or.inl (by decide +kernel)) dX12_tries_127 rfl (by omega) (Nat.le_refl _) (Nat.le_refl _) rfl (Nat.le_of_ble_eq_true rfl) (fun v u hp => ?_)
              obtain ⟨rfl, rfl⟩ := hp
              show ab_T _ _ _ _ 0 0 130 _ (.long _ :: []) _ _
              refine ab_lstore (pc2 := 132) (lo2 := [some (va_rf _), some (.int _), some (.int _), some (.int _), some (.int _), some (.int _), some (.int _), some (.int _), some (.int _), some (.int _), some (.long _), none]) dX12_tries_130 rfl (by decide) rfl ?_
              refine ab_aload_n (x := _) (pc2 := 133) dX12_tries_132 rfl rfl ?_
              refine ab_getI (pc2 := 136) rfl ht0 fa_X12_266 (by decide) dX12_tries_133 rfl ?_
              refine ab_if_eq (tgt := 152) (pc2 := 139) dX12_tries_136 (by decide) rfl hf (fun c27 hf => ?_) (fun c27 hf => ?_)
              · exact ab_weak (x_X12_tries_b152 hself ht0 ih hf) (ab_leS (ab_leS (ab_leS (ab_leS (ab_leS (ab_leS (ab_leS (ab_leS (ab_leS (ab_leS (ab_leS (ab_leN ab_le0))))))))))))
              · refine ab_lload (pc2 := 141) dX12_tries_139 rfl rfl ?_
                refine ab_aload_n (x := _) (pc2 := 142) dX12_tries_141 rfl rfl ?_
                refine ab_getL (pc2 := 145) rfl ht0 fa_X12_270 dX12_tries_142 rfl ?_
                refine ab_lcmp (pc2 := 146) dX12_tries_145 rfl ?_
                refine ab_if_gt (tgt := 152) (pc2 := 149) dX12_tries_146 (by decide) rfl hf (fun c28 hf => ?_) (fun c28 hf => ?_)
                · exact ab_weak (x_X12_tries_b152 hself ht0 ih hf) (ab_leS (ab_leS (ab_leS (ab_leS (ab_leS (ab_leS (ab_leS (ab_leS (ab_leS (ab_leS (ab_leS (ab_leN ab_le0))))))))))))
                · refine ab_goto (tgt := 169) dX12_tries_149 (by decide) ?_
                  refine ab_iinc (pc2 := 172) (v := _ + 1) (lo2 := [some (va_rf _), some (.int _), some (.int _), some (.int _), some (.int _), some (.int _), some (.int _), some (.int _), some (.int _), some (.int _), some (.long _), none]) dX12_tries_169 rfl rfl rfl (by decide) rfl ?_
                  refine ab_goto (tgt := 3) dX12_tries_172 (by decide) ?_
                  exact ab_weak (ih _ _ _ _ _ _ _ _ _ hf) (ab_leS (ab_leS (ab_leS (ab_leS (ab_leS (ab_leS (ab_leS (ab_leS (ab_leS (ab_leN (ab_leN (ab_leN ab_le0))))))))))))
            · refine ab_aload_n (x := _) (pc2 := 103) dX12_tries_102 rfl rfl ?_
              refine ab_iload_n (pc2 := 104) dX12_tries_103 rfl rfl ?_
              refine ab_iconst (pc2 := 105) (v := 1) dX12_tries_104 rfl ab_k_iconst_1 ?_
              refine ab_isub (pc2 := 106) dX12_tries_105 rfl ?_
              refine ab_iload (pc2 := 108) dX12_tries_106 rfl rfl ?_
              refine ab_aload_n (x := _) (pc2 := 109) dX12_tries_108 rfl rfl ?_
              refine ab_getI (pc2 := 112) rfl ht0 fa_X12_175 (by decide) dX12_tries_109 rfl ?_
              refine ab_aload_n (x := _) (pc2 := 113) dX12_tries_112 rfl rfl ?_
              refine ab_getI (pc2 := 116) rfl ht0 fa_X12_178 (by decide) dX12_tries_113 rfl ?_
              obtain ⟨w29, ew29, hf⟩ := ab_bind hf
              refine ab_callV (pc2 := 119) (st := []) rfl ht0 (by decide) (hself _ _ _ _ _ _ _ ht0 ew29) mf_X12_plans tw_290 tw_289 ts_X12_plans (Or.inl (by decide +kernel)) dX12_tries_116 rfl (by omega) (Nat.le_refl _) (Nat.le_refl _) rfl (Nat.le_of_ble_eq_true rfl) (fun v u hp => ?_)
              obtain ⟨rfl, rfl⟩ := hp
              show ab_T _ _ _ _ 0 0 119 _ ([]) _ _
              refine ab_goto (tgt := 169) dX12_tries_119 (by decide) ?_
              refine ab_iinc (pc2 := 172) (v := _ + 1) (lo2 := [some (va_rf _), some (.int _), some (.int _), some (.int _), some (.int _), some (.int _), some (.int _), some (.int _), some (.int _), some (.int _), none, none]) dX12_tries_169 rfl rfl rfl (by decide) rfl ?_
              refine ab_goto (tgt := 3) dX12_tries_172 (by decide) ?_
              exact ab_weak (ih _ _ _ _ _ _ _ _ _ hf) (ab_leS (ab_leS (ab_leS (ab_leS (ab_leS (ab_leS (ab_leS (ab_leS (ab_leS (ab_leN (ab_leN (ab_leN ab_le0))))))))))))
        · refine ab_iload (pc2 := 75) dX12_tries_73 rfl rfl ?_
          refine ab_goto (tgt := 80) dX12_tries_75 (by decide) ?_
          refine ab_imul (pc2 := 81) dX12_tries_80 rfl ?_
          refine ab_iadd (pc2 := 82) dX12_tries_81 rfl ?_
          refine ab_iload_n (pc2 := 83) dX12_tries_82 rfl rfl ?_
          refine ab_iconst (pc2 := 84) (v := 1) dX12_tries_83 rfl ab_k_iconst_1 ?_
          refine ab_icmp_le (tgt := 92) (pc2 := 87) dX12_tries_84 (by decide) rfl hf (fun c30 hf => ?_) (fun c30 hf => ?_)
          · refine ab_bipush (pc2 := 94) (v := 9) dX12_tries_92 rfl ab_k_bipush_9 ?_
            refine ab_iadd (pc2 := 95) dX12_tries_94 rfl ?_
            have hf := ab_let_e hf
            refine ab_istore (pc2 := 97) (lo2 := [some (va_rf _), some (.int _), some (.int _), some (.int _), some (.int _), some (.int _), some (.int _), some (.int _), some (.int _), some (.int _), none, none]) dX12_tries_95 rfl (by decide) rfl ?_
            refine ab_iload_n (pc2 := 98) dX12_tries_97 rfl rfl ?_
            refine ab_iconst (pc2 := 99) (v := 1) dX12_tries_98 rfl ab_k_iconst_1 ?_
            refine ab_icmp_le (tgt := 122) (pc2 := 102) dX12_tries_99 (by decide) rfl hf (fun c32 hf => ?_) (fun c32 hf => ?_)
            · refine ab_aload_n (x := _) (pc2 := 123) dX12_tries_122 rfl rfl ?_
              refine ab_aload_n (x := _) (pc2 := 124) dX12_tries_123 rfl rfl ?_
              refine ab_getI (pc2 := 127) rfl ht0 fa_X12_175 (by decide) dX12_tries_124 rfl ?_
              obtain ⟨w33, ew33, hf⟩ := ab_bind hf
              refine ab_callV (pc2 := 130) (st := []) rfl ht0 (by decide) (m_X12_worthOf (d := (d + 6)) ht0 ew33) mf_X12_worthOf tw_288 tw_287 ts_X12_worthOf (Or.inl (by decide +kernel)) dX12_tries_127 rfl (by omega) (Nat.le_refl _) (Nat.le_refl _) rfl (Nat.le_of_ble_eq_true rfl) (fun v u hp => ?_)
              obtain ⟨rfl, rfl⟩ := hp
              show ab_T _ _ _ _ 0 0 130 _ (.long _ :: []) _ _
              refine ab_lstore (pc2 := 132) (lo2 := [some (va_rf _), some (.int _), some (.int _), some (.int _), some (.int _), some (.int _), some (.int _), some (.int _), some (.int _), some (.int _), some (.long _), none]) dX12_tries_130 rfl (by decide) rfl ?_
              refine ab_aload_n (x := _) (pc2 := 133) dX12_tries_132 rfl rfl ?_
              refine ab_getI (pc2 := 136) rfl ht0 fa_X12_266 (by decide) dX12_tries_133 rfl ?_
              refine ab_if_eq (tgt := 152) (pc2 := 139) dX12_tries_136 (by decide) rfl hf (fun c34 hf => ?_) (fun c34 hf => ?_)
              · exact ab_weak (x_X12_tries_b152 hself ht0 ih hf) (ab_leS (ab_leS (ab_leS (ab_leS (ab_leS (ab_leS (ab_leS (ab_leS (ab_leS (ab_leS (ab_leS (ab_leN ab_le0))))))))))))
              · refine ab_lload (pc2 := 141) dX12_tries_139 rfl rfl ?_
                refine ab_aload_n (x := _) (pc2 := 142) dX12_tries_141 rfl rfl ?_
                refine ab_getL (pc2 := 145) rfl ht0 fa_X12_270 dX12_tries_142 rfl ?_
                refine ab_lcmp (pc2 := 146) dX12_tries_145 rfl ?_
                refine ab_if_gt (tgt := 152) (pc2 := 149) dX12_tries_146 (by decide) rfl hf (fun c35 hf => ?_) (fun c35 hf => ?_)
                · exact ab_weak (x_X12_tries_b152 hself ht0 ih hf) (ab_leS (ab_leS (ab_leS (ab_leS (ab_leS (ab_leS (ab_leS (ab_leS (ab_leS (ab_leS (ab_leS (ab_leN ab_le0))))))))))))
                · refine ab_goto (tgt := 169) dX12_tries_149 (by decide) ?_
                  refine ab_iinc (pc2 := 172) (v := _ + 1) (lo2 := [some (va_rf _), some (.int _), some (.int _), some (.int _), some (.int _), some (.int _), some (.int _), some (.int _), some (.int _), some (.int _), some (.long _), none]) dX12_tries_169 rfl rfl rfl (by decide) rfl ?_
                  refine ab_goto (tgt := 3) dX12_tries_172 (by decide) ?_
                  exact ab_weak (ih _ _ _ _ _ _ _ _ _ hf) (ab_leS (ab_leS (ab_leS (ab_leS (ab_leS (ab_leS (ab_leS (ab_leS (ab_leS (ab_leN (ab_leN (ab_leN ab_le0))))))))))))
            · refine ab_aload_n (x := _) (pc2 := 103) dX12_tries_102 rfl rfl ?_
              refine ab_iload_n (pc2 := 104) dX12_tries_103 rfl rfl ?_
              refine ab_iconst (pc2 := 105) (v := 1) dX12_tries_104 rfl ab_k_iconst_1 ?_
              refine ab_isub (pc2 := 106) dX12_tries_105 rfl ?_
              refine ab_iload (pc2 := 108) dX12_tries_106 rfl rfl ?_
              refine ab_aload_n (x := _) (pc2 := 109) dX12_tries_108 rfl rfl ?_
              refine ab_getI (pc2 := 112) rfl ht0 fa_X12_175 (by decide) dX12_tries_109 rfl ?_
              refine ab_aload_n (x := _) (pc2 := 113) dX12_tries_112 rfl rfl ?_
              refine ab_getI (pc2 := 116) rfl ht0 fa_X12_178 (by decide) dX12_tries_113 rfl ?_
              obtain ⟨w36, ew36, hf⟩ := ab_bind hf
              refine ab_callV (pc2 := 119) (st := []) rfl ht0 (by decide) (hself _ _ _ _ _ _ _ ht0 ew36) mf_X12_plans tw_290 tw_289 ts_X12_plans (Or.inl (by decide +kernel)) dX12_tries_116 rfl (by omega) (Nat.le_refl _) (Nat.le_refl _) rfl (Nat.le_of_ble_eq_true rfl) (fun v u hp => ?_)
              obtain ⟨rfl, rfl⟩ := hp
              show ab_T _ _ _ _ 0 0 119 _ ([]) _ _
              refine ab_goto (tgt := 169) dX12_tries_119 (by decide) ?_
              refine ab_iinc (pc2 := 172) (v := _ + 1) (lo2 := [some (va_rf _), some (.int _), some (.int _), some (.int _), some (.int _), some (.int _), some (.int _), some (.int _), some (.int _), some (.int _), none, none]) dX12_tries_169 rfl rfl rfl (by decide) rfl ?_
              refine ab_goto (tgt := 3) dX12_tries_172 (by decide) ?_
              exact ab_weak (ih _ _ _ _ _ _ _ _ _ hf) (ab_leS (ab_leS (ab_leS (ab_leS (ab_leS (ab_leS (ab_leS (ab_leS (ab_leS (ab_leN (ab_leN (ab_leN ab_le0))))))))))))
          · refine ab_iload (pc2 := 89) dX12_tries_87 rfl rfl ?_
            refine ab_goto (tgt := 94) dX12_tries_89 (by decide) ?_
            refine ab_iadd (pc2 := 95) dX12_tries_94 rfl ?_
            have hf := ab_let_e hf
            refine ab_istore (pc2 := 97) (lo2 := [some (va_rf _), some (.int _), some (.int _), some (.int _), some (.int _), some (.int _), some (.int _), some (.int _), some (.int _), some (.int _), none, none]) dX12_tries_95 rfl (by decide) rfl ?_
            refine ab_iload_n (pc2 := 98) dX12_tries_97 rfl rfl ?_
            refine ab_iconst (pc2 := 99) (v := 1) dX12_tries_98 rfl ab_k_iconst_1 ?_
            refine ab_icmp_le (tgt := 122) (pc2 := 102) dX12_tries_99 (by decide) rfl hf (fun c38 hf => ?_) (fun c38 hf => ?_)
            · refine ab_aload_n (x := _) (pc2 := 123) dX12_tries_122 rfl rfl ?_
              refine ab_aload_n (x := _) (pc2 := 124) dX12_tries_123 rfl rfl ?_
              refine ab_getI (pc2 := 127) rfl ht0 fa_X12_175 (by decide) dX12_tries_124 rfl ?_
              obtain ⟨w39, ew39, hf⟩ := ab_bind hf
              refine ab_callV (pc2 := 130) (st := []) rfl ht0 (by decide) (m_X12_worthOf (d := (d + 6)) ht0 ew39) mf_X12_worthOf tw_288 tw_287 ts_X12_worthOf (Or.inl (by decide +kernel)) dX12_tries_127 rfl (by omega) (Nat.le_refl _) (Nat.le_refl _) rfl (Nat.le_of_ble_eq_true rfl) (fun v u hp => ?_)
              obtain ⟨rfl, rfl⟩ := hp
              show ab_T _ _ _ _ 0 0 130 _ (.long _ :: []) _ _
              refine ab_lstore (pc2 := 132) (lo2 := [some (va_rf _), some (.int _), some (.int _), some (.int _), some (.int _), some (.int _), some (.int _), some (.int _), some (.int _), some (.int _), some (.long _), none]) dX12_tries_130 rfl (by decide) rfl ?_
              refine ab_aload_n (x := _) (pc2 := 133) dX12_tries_132 rfl rfl ?_
              refine ab_getI (pc2 := 136) rfl ht0 fa_X12_266 (by decide) dX12_tries_133 rfl ?_
              refine ab_if_eq (tgt := 152) (pc2 := 139) dX12_tries_136 (by decide) rfl hf (fun c40 hf => ?_) (fun c40 hf => ?_)
              · exact ab_weak (x_X12_tries_b152 hself ht0 ih hf) (ab_leS (ab_leS (ab_leS (ab_leS (ab_leS (ab_leS (ab_leS (ab_leS (ab_leS (ab_leS (ab_leS (ab_leN ab_le0))))))))))))
              · refine ab_lload (pc2 := 141) dX12_tries_139 rfl rfl ?_
                refine ab_aload_n (x := _) (pc2 := 142) dX12_tries_141 rfl rfl ?_
                refine ab_getL (pc2 := 145) rfl ht0 fa_X12_270 dX12_tries_142 rfl ?_
                refine ab_lcmp (pc2 := 146) dX12_tries_145 rfl ?_
                refine ab_if_gt (tgt := 152) (pc2 := 149) dX12_tries_146 (by decide) rfl hf (fun c41 hf => ?_) (fun c41 hf => ?_)
                · exact ab_weak (x_X12_tries_b152 hself ht0 ih hf) (ab_leS (ab_leS (ab_leS (ab_leS (ab_leS (ab_leS (ab_leS (ab_leS (ab_leS (ab_leS (ab_leS (ab_leN ab_le0))))))))))))
                · refine ab_goto (tgt := 169) dX12_tries_149 (by decide) ?_
                  refine ab_iinc (pc2 := 172) (v := _ + 1) (lo2 := [some (va_rf _), some (.int _), some (.int _), some (.int _), some (.int _), some (.int _), some (.int _), some (.int _), some (.int _), some (.int _), some (.long _), none]) dX12_tries_169 rfl rfl rfl (by decide) rfl ?_
                  refine ab_goto (tgt := 3) dX12_tries_172 (by decide) ?_
                  exact ab_weak (ih _ _ _ _ _ _ _ _ _ hf) (ab_leS (ab_leS (ab_leS (ab_leS (ab_leS (ab_leS (ab_leS (ab_leS (ab_leS (ab_leN (ab_leN (ab_leN ab_le0))))))))))))
            · refine ab_aload_n (x := _) (pc2 := 103) dX12_tries_102 rfl rfl ?_
              refine ab_iload_n (pc2 := 104) dX12_tries_103 rfl rfl ?_
              refine ab_iconst (pc2 := 105) (v := 1) dX12_tries_104 rfl ab_k_iconst_1 ?_
              refine ab_isub (pc2 := 106) dX12_tries_105 rfl ?_
              refine ab_iload (pc2 := 108) dX12_tries_106 rfl rfl ?_
              refine ab_aload_n (x := _) (pc2 := 109) dX12_tries_108 rfl rfl ?_
              refine ab_getI (pc2 := 112) rfl ht0 fa_X12_175 (by decide) dX12_tries_109 rfl ?_
              refine ab_aload_n (x := _) (pc2 := 113) dX12_tries_112 rfl rfl ?_
              refine ab_getI (pc2 := 116) rfl ht0 fa_X12_178 (by decide) dX12_tries_113 rfl ?_
              obtain ⟨w42, ew42, hf⟩ := ab_bind hf
              refine ab_callV (pc2 := 119) (st := []) rfl ht0 (by decide) (hself _ _ _ _ _ _ _ ht0 ew42) mf_X12_plans tw_290 tw_289 ts_X12_plans (Or.inl (by decide +kernel)) dX12_tries_116 rfl (by omega) (Nat.le_refl _) (Nat.le_refl _) rfl (Nat.le_of_ble_eq_true rfl) (fun v u hp => ?_)
              obtain ⟨rfl, rfl⟩ := hp
              show ab_T _ _ _ _ 0 0 119 _ ([]) _ _
              refine ab_goto (tgt := 169) dX12_tries_119 (by decide) ?_
              refine ab_iinc (pc2 := 172) (v := _ + 1) (lo2 := [some (va_rf _), some (.int _), some (.int _), some (.int _), some (.int _), some (.int _), some (.int _), some (.int _), some (.int _), some (.int _), none, none]) dX12_tries_169 rfl rfl rfl (by decide) rfl ?_
              refine ab_goto (tgt := 3) dX12_tries_172 (by decide) ?_
              exact ab_weak (ih _ _ _ _ _ _ _ _ _ hf) (ab_leS (ab_leS (ab_leS (ab_leS (ab_leS (ab_leS (ab_leS (ab_leS (ab_leS (ab_leN (ab_leN (ab_leN ab_le0))))))))))))
      · refine ab_iload_n (pc2 := 59) dX12_tries_58 rfl rfl ?_
        refine ab_goto (tgt := 95) dX12_tries_59 (by decide) ?_
        refine ab_istore (pc2 := 97) (lo2 := [some (va_rf _), some (.int _), some (.int _), some (.int _), some (.int _), some (.int _), some (.int _), some (.int _), some (.int _), some (.int _), none, none]) dX12_tries_95 rfl (by decide) rfl ?_
        refine ab_iload_n (pc2 := 98) dX12_tries_97 rfl rfl ?_
        refine ab_iconst (pc2 := 99) (v := 1) dX12_tries_98 rfl ab_k_iconst_1 ?_
        refine ab_icmp_le (tgt := 122) (pc2 := 102) dX12_tries_99 (by decide) rfl hf (fun c43 hf => ?_) (fun c43 hf => ?_)
        · refine ab_aload_n (x := _) (pc2 := 123) dX12_tries_122 rfl rfl ?_
          refine ab_aload_n (x := _) (pc2 := 124) dX12_tries_123 rfl rfl ?_
          refine ab_getI (pc2 := 127) rfl ht0 fa_X12_175 (by decide) dX12_tries_124 rfl ?_
          obtain ⟨w44, ew44, hf⟩ := ab_bind hf
          refine ab_callV (pc2 := 130) (st := []) rfl ht0 (by decide) (m_X12_worthOf (d := (d + 6)) ht0 ew44) mf_X12_worthOf tw_288 tw_287 ts_X12_worthOf (Or.inl (by decide +kernel)) dX12_tries_127 rfl (by omega) (Nat.le_refl _) (Nat.le_refl _) rfl (Nat.le_of_ble_eq_true rfl) (fun v u hp => ?_)
          obtain ⟨rfl, rfl⟩ := hp
          show ab_T _ _ _ _ 0 0 130 _ (.long _ :: []) _ _
          refine ab_lstore (pc2 := 132) (lo2 := [some (va_rf _), some (.int _), some (.int _), some (.int _), some (.int _), some (.int _), some (.int _), some (.int _), some (.int _), some (.int _), some (.long _), none]) dX12_tries_130 rfl (by decide) rfl ?_
          refine ab_aload_n (x := _) (pc2 := 133) dX12_tries_132 rfl rfl ?_
          refine ab_getI (pc2 := 136) rfl ht0 fa_X12_266 (by decide) dX12_tries_133 rfl ?_
          refine ab_if_eq (tgt := 152) (pc2 := 139) dX12_tries_136 (by decide) rfl hf (fun c45 hf => ?_) (fun c45 hf => ?_)
          · exact ab_weak (x_X12_tries_b152 hself ht0 ih hf) (ab_leS (ab_leS (ab_leS (ab_leS (ab_leS (ab_leS (ab_leS (ab_leS (ab_leS (ab_leS (ab_leS (ab_leN ab_le0))))))))))))
          · refine ab_lload (pc2 := 141) dX12_tries_139 rfl rfl ?_
            refine ab_aload_n (x := _) (pc2 := 142) dX12_tries_141 rfl rfl ?_
            refine ab_getL (pc2 := 145) rfl ht0 fa_X12_270 dX12_tries_142 rfl ?_
            refine ab_lcmp (pc2 := 146) dX12_tries_145 rfl ?_
            refine ab_if_gt (tgt := 152) (pc2 := 149) dX12_tries_146 (by decide) rfl hf (fun c46 hf => ?_) (fun c46 hf => ?_)
            · exact ab_weak (x_X12_tries_b152 hself ht0 ih hf) (ab_leS (ab_leS (ab_leS (ab_leS (ab_leS (ab_leS (ab_leS (ab_leS (ab_leS (ab_leS (ab_leS (ab_leN ab_le0))))))))))))
            · refine ab_goto (tgt := 169) dX12_tries_149 (by decide) ?_
              refine ab_iinc (pc2 := 172) (v := _ + 1) (lo2 := [some (va_rf _), some (.int _), some (.int _), some (.int _), some (.int _), some (.int _), some (.int _), some (.int _), some (.int _), some (.int _), some (.long _), none]) dX12_tries_169 rfl rfl rfl (by decide) rfl ?_
              refine ab_goto (tgt := 3) dX12_tries_172 (by decide) ?_
              exact ab_weak (ih _ _ _ _ _ _ _ _ _ hf) (ab_leS (ab_leS (ab_leS (ab_leS (ab_leS (ab_leS (ab_leS (ab_leS (ab_leS (ab_leN (ab_leN (ab_leN ab_le0))))))))))))
        · refine ab_aload_n (x := _) (pc2 := 103) dX12_tries_102 rfl rfl ?_
          refine ab_iload_n (pc2 := 104) dX12_tries_103 rfl rfl ?_
          refine ab_iconst (pc2 := 105) (v := 1) dX12_tries_104 rfl ab_k_iconst_1 ?_
          refine ab_isub (pc2 := 106) dX12_tries_105 rfl ?_
          refine ab_iload (pc2 := 108) dX12_tries_106 rfl rfl ?_
          refine ab_aload_n (x := _) (pc2 := 109) dX12_tries_108 rfl rfl ?_
          refine ab_getI (pc2 := 112) rfl ht0 fa_X12_175 (by decide) dX12_tries_109 rfl ?_
          refine ab_aload_n (x := _) (pc2 := 113) dX12_tries_112 rfl rfl ?_
          refine ab_getI (pc2 := 116) rfl ht0 fa_X12_178 (by decide) dX12_tries_113 rfl ?_
          obtain ⟨w47, ew47, hf⟩ := ab_bind hf
          refine ab_callV (pc2 := 119) (st := []) rfl ht0 (by decide) (hself _ _ _ _ _ _ _ ht0 ew47) mf_X12_plans tw_290 tw_289 ts_X12_plans (Or.inl (by decide +kernel)) dX12_tries_116 rfl (by omega) (Nat.le_refl _) (Nat.le_refl _) rfl (Nat.le_of_ble_eq_true rfl) (fun v u hp => ?_)
          obtain ⟨rfl, rfl⟩ := hp
          show ab_T _ _ _ _ 0 0 119 _ ([]) _ _
          refine ab_goto (tgt := 169) dX12_tries_119 (by decide) ?_
          refine ab_iinc (pc2 := 172) (v := _ + 1) (lo2 := [some (va_rf _), some (.int _), some (.int _), some (.int _), some (.int _), some (.int _), some (.int _), some (.int _), some (.int _), some (.int _), none, none]) dX12_tries_169 rfl rfl rfl (by decide) rfl ?_
          refine ab_goto (tgt := 3) dX12_tries_172 (by decide) ?_
          exact ab_weak (ih _ _ _ _ _ _ _ _ _ hf) (ab_leS (ab_leS (ab_leS (ab_leS (ab_leS (ab_leS (ab_leS (ab_leS (ab_leS (ab_leN (ab_leN (ab_leN ab_le0))))))))))))
set_option maxHeartbeats 4000000 in
set_option maxRecDepth 100000 in
theorem x_X12_tries {d : Nat} {self : Nat → Int32 → Int32 → Int32 → Int32 → ab_HP → Option ab_HP} {t0 : Nat} {i1 : Int32} {i2 : Int32} {i3 : Int32} {i4 : Int32} {i5 : Int32} {i6 : Int32} {i7 : Int32} {h : ab_HP} {r : ab_HP} (hself : ∀ (t : Nat) (a1 : Int32) (a2 : Int32) (a3 : Int32) (a4 : Int32) (h w : ab_HP), (ab_shp t).1 = 5 → self t a1 a2 a3 a4 h = some w → ab_MET mX12_plans d 0 0 [va_rf (some t), .int a1, .int a2, .int a3, .int a4] h (ab_Pv w)) (ht0 : (ab_shp t0).1 = 5) (hf : f_X12_tries self t0 i1 i2 i3 i4 i5 i6 i7 h = some r) : ab_T mX12_tries (d + 7) 0 0 0 0 0 [some (va_rf (some t0)), some (.int i1), some (.int i2), some (.int i3), some (.int i4), some (.int i5), some (.int i6), some (.int i7), none, none, none, none] [] h (ab_Pv r) := by
  unfold f_X12_tries at hf
  refine ab_iconst (pc2 := 1) (v := 0) dX12_tries_0 rfl ab_k_iconst_0 ?_
  refine ab_istore (pc2 := 3) (lo2 := [some (va_rf _), some (.int _), some (.int _), some (.int _), some (.int _), some (.int _), some (.int _), some (.int _), some (.int _), none, none, none]) dX12_tries_1 rfl (by decide) rfl ?_
  exact ab_weak (x_X12_tries_l3 hself ht0 _ _ _ _ _ _ _ _ _ _ hf) (ab_leS (ab_leS (ab_leS (ab_leS (ab_leS (ab_leS (ab_leS (ab_leS (ab_leS (ab_leN (ab_leN (ab_leN ab_le0))))))))))))
set_option maxHeartbeats 4000000 in
set_option maxRecDepth 100000 in
theorem m_X12_tries {d : Nat} {self : Nat → Int32 → Int32 → Int32 → Int32 → ab_HP → Option ab_HP} {t0 : Nat} {i1 : Int32} {i2 : Int32} {i3 : Int32} {i4 : Int32} {i5 : Int32} {i6 : Int32} {i7 : Int32} {h : ab_HP} {r : ab_HP} (hself : ∀ (t : Nat) (a1 : Int32) (a2 : Int32) (a3 : Int32) (a4 : Int32) (h w : ab_HP), (ab_shp t).1 = 5 → self t a1 a2 a3 a4 h = some w → ab_MET mX12_plans d 0 0 [va_rf (some t), .int a1, .int a2, .int a3, .int a4] h (ab_Pv w)) (ht0 : (ab_shp t0).1 = 5) (hf : f_X12_tries self t0 i1 i2 i3 i4 i5 i6 i7 h = some r) : ab_MET mX12_tries (d + 7) 0 0 [va_rf (some t0), .int i1, .int i2, .int i3, .int i4, .int i5, .int i6, .int i7] h (ab_Pv r) := ab_met (by decide +kernel) (by decide +kernel) (Nat.le_of_ble_eq_true rfl) rfl (x_X12_tries hself ht0 hf)
set_option maxHeartbeats 4000000 in
set_option maxRecDepth 100000 in
theorem x_X12_plans_l64 {d : Nat} {k49 : Int32 → Int32 → Int32 → Int32 → Int32 → ab_HP → Option ab_HP} {self : Nat → Int32 → Int32 → Int32 → Int32 → ab_HP → Option ab_HP} {t0 : Nat} {r : ab_HP} (hself : ∀ (t : Nat) (a1 : Int32) (a2 : Int32) (a3 : Int32) (a4 : Int32) (h w : ab_HP), (ab_shp t).1 = 5 → self t a1 a2 a3 a4 h = some w → ab_MET mX12_plans d 0 0 [va_rf (some t), .int a1, .int a2, .int a3, .int a4] h (ab_Pv w)) (ht0 : (ab_shp t0).1 = 5) (hk49 : ∀ (i1 : Int32) (i2 : Int32) (i3 : Int32) (i4 : Int32) (i5 : Int32) (h : ab_HP), k49 i1 i2 i3 i4 i5 h = some r → ab_T mX12_plans (d + 8) 0 0 0 0 49 [some (va_rf (some t0)), some (.int i1), some (.int i2), some (.int i3), some (.int i4), some (.int i5), none] [] h (ab_Pv r)) : ∀ (n : Nat) (i1 : Int32) (i2 : Int32) (i3 : Int32) (i4 : Int32) (i5 : Int32) (i6 : Int32) (h : ab_HP), f_X12_plans_l64 k49 self t0 n i1 i2 i3 i4 i5 i6 h = some r → ab_T mX12_plans (d + 8) 0 0 0 0 64 [some (va_rf (some t0)), some (.int i1), some (.int i2), some (.int i3), some (.int i4), some (.int i5), some (.int i6)] [] h (ab_Pv r) := by
  intro n
  induction n with
  | zero =>
    intro i1 i2 i3 i4 i5 i6 h hf
    rw [f_X12_plans_l64] at hf
    cases hf
  | succ n ih =>
    intro i1 i2 i3 i4 i5 i6 h hf
    rw [f_X12_plans_l64] at hf
    refine ab_iload (pc2 := 66) dX12_plans_64 rfl rfl ?_
    refine ab_aload_n (x := _) (pc2 := 67) dX12_plans_66 rfl rfl ?_
    refine ab_getR (pc2 := 70) rfl ht0 fa_X12_9 dX12_plans_67 rfl (fun T11 => ?_)
    refine ab_bipush (pc2 := 72) (v := 6) dX12_plans_70 rfl ab_k_bipush_6 ?_
    obtain ⟨q12, hq12, hf⟩ := ab_bind hf
    obtain ⟨b13, hf⟩ := ab_guard hf
    refine ab_iald (pc2 := 73) hq12 (T11 q12 hq12) (ab_in_vp b13) dX12_plans_72 rfl ?_
    refine ab_icmp_ge (tgt := 103) (pc2 := 76) dX12_plans_73 (by decide) rfl hf (fun c14 hf => ?_) (fun c14 hf => ?_)
    · refine ab_iinc (pc2 := 106) (v := _ + 1) (lo2 := [some (va_rf _), some (.int _), some (.int _), some (.int _), some (.int _), some (.int _), some (.int _)]) dX12_plans_103 rfl rfl rfl (by decide) rfl ?_
      refine ab_goto (tgt := 49) dX12_plans_106 (by decide) ?_
      exact ab_weak (hk49 _ _ _ _ _ _ hf) (ab_leS (ab_leS (ab_leS (ab_leS (ab_leS (ab_leS (ab_leN ab_le0)))))))
    · refine ab_iload (pc2 := 78) dX12_plans_76 rfl rfl ?_
      refine ab_iload (pc2 := 80) dX12_plans_78 rfl rfl ?_
      refine ab_icmp_eq (tgt := 97) (pc2 := 83) dX12_plans_80 (by decide) rfl hf (fun c15 hf => ?_) (fun c15 hf => ?_)
      · refine ab_iinc (pc2 := 100) (v := _ + 1) (lo2 := [some (va_rf _), some (.int _), some (.int _), some (.int _), some (.int _), some (.int _), some (.int _)]) dX12_plans_97 rfl rfl rfl (by decide) rfl ?_
        refine ab_goto (tgt := 64) dX12_plans_100 (by decide) ?_
        exact ab_weak (ih _ _ _ _ _ _ _ hf) (ab_leS (ab_leS (ab_leS (ab_leS (ab_leS (ab_leS (ab_leS ab_le0)))))))
      · refine ab_aload_n (x := _) (pc2 := 84) dX12_plans_83 rfl rfl ?_
        refine ab_iload_n (pc2 := 85) dX12_plans_84 rfl rfl ?_
        refine ab_iload_n (pc2 := 86) dX12_plans_85 rfl rfl ?_
        refine ab_iconst (pc2 := 87) (v := 2) dX12_plans_86 rfl ab_k_iconst_2 ?_
        refine ab_iload (pc2 := 89) dX12_plans_87 rfl rfl ?_
        refine ab_iload (pc2 := 91) dX12_plans_89 rfl rfl ?_
        refine ab_iload_n (pc2 := 92) dX12_plans_91 rfl rfl ?_
        refine ab_iload (pc2 := 94) dX12_plans_92 rfl rfl ?_
        obtain ⟨w16, ew16, hf⟩ := ab_bind hf
        refine ab_callV (pc2 := 97) (st := []) rfl ht0 (by decide) (m_X12_tries (d := (d + 0)) hself ht0 ew16) mf_X12_tries tw_292 tw_291 ts_X12_tries (Or.inl (by decide +kernel)) dX12_plans_94 rfl (by omega) (Nat.le_refl _) (Nat.le_refl _) rfl (Nat.le_of_ble_eq_true rfl) (fun v u hp => ?_)
        obtain ⟨rfl, rfl⟩ := hp
        show ab_T _ _ _ _ 0 0 97 _ ([]) _ _
        refine ab_iinc (pc2 := 100) (v := _ + 1) (lo2 := [some (va_rf _), some (.int _), some (.int _), some (.int _), some (.int _), some (.int _), some (.int _)]) dX12_plans_97 rfl rfl rfl (by decide) rfl ?_
        refine ab_goto (tgt := 64) dX12_plans_100 (by decide) ?_
        exact ab_weak (ih _ _ _ _ _ _ _ hf) (ab_leS (ab_leS (ab_leS (ab_leS (ab_leS (ab_leS (ab_leS ab_le0)))))))
set_option maxHeartbeats 4000000 in
set_option maxRecDepth 100000 in
theorem x_X12_plans_l49 {d : Nat} {self : Nat → Int32 → Int32 → Int32 → Int32 → ab_HP → Option ab_HP} {t0 : Nat} {r : ab_HP} (hself : ∀ (t : Nat) (a1 : Int32) (a2 : Int32) (a3 : Int32) (a4 : Int32) (h w : ab_HP), (ab_shp t).1 = 5 → self t a1 a2 a3 a4 h = some w → ab_MET mX12_plans d 0 0 [va_rf (some t), .int a1, .int a2, .int a3, .int a4] h (ab_Pv w)) (ht0 : (ab_shp t0).1 = 5) : ∀ (n : Nat) (i1 : Int32) (i2 : Int32) (i3 : Int32) (i4 : Int32) (i5 : Int32) (h : ab_HP), f_X12_plans_l49 self t0 n i1 i2 i3 i4 i5 h = some r → ab_T mX12_plans (d + 8) 0 0 0 0 49 [some (va_rf (some t0)), some (.int i1), some (.int i2), some (.int i3), some (.int i4), some (.int i5), none] [] h (ab_Pv r) := by
  intro n
  induction n with
  | zero =>
    intro i1 i2 i3 i4 i5 h hf
    rw [f_X12_plans_l49] at hf
    cases hf
  | succ n ih =>
    intro i1 i2 i3 i4 i5 h hf
    rw [f_X12_plans_l49] at hf
    refine ab_iload (pc2 := 51) dX12_plans_49 rfl rfl ?_
    refine ab_aload_n (x := _) (pc2 := 52) dX12_plans_51 rfl rfl ?_
    refine ab_getR (pc2 := 55) rfl ht0 fa_X12_9 dX12_plans_52 rfl (fun T7 => ?_)
    refine ab_bipush (pc2 := 57) (v := 6) dX12_plans_55 rfl ab_k_bipush_6 ?_
    obtain ⟨q8, hq8, hf⟩ := ab_bind hf
    obtain ⟨b9, hf⟩ := ab_guard hf
    refine ab_iald (pc2 := 58) hq8 (T7 q8 hq8) (ab_in_vp b9) dX12_plans_57 rfl ?_
    refine ab_icmp_ge (tgt := 109) (pc2 := 61) dX12_plans_58 (by decide) rfl hf (fun c10 hf => ?_) (fun c10 hf => ?_)
    · cases Option.some.inj hf
      exact ab_retV dX12_plans_109 rfl (Nat.le_refl _) (Nat.le_refl _) ⟨rfl, rfl⟩
    · refine ab_iconst (pc2 := 62) (v := 0) dX12_plans_61 rfl ab_k_iconst_0 ?_
      refine ab_istore (pc2 := 64) (lo2 := [some (va_rf _), some (.int _), some (.int _), some (.int _), some (.int _), some (.int _), some (.int _)]) dX12_plans_62 rfl (by decide) rfl ?_
      exact ab_weak (x_X12_plans_l64 hself ht0 ih _ _ _ _ _ _ _ _ hf) (ab_leS (ab_leS (ab_leS (ab_leS (ab_leS (ab_leS (ab_leS ab_le0)))))))
set_option maxHeartbeats 4000000 in
set_option maxRecDepth 100000 in
theorem x_X12_plans_l15 {d : Nat} {self : Nat → Int32 → Int32 → Int32 → Int32 → ab_HP → Option ab_HP} {t0 : Nat} {r : ab_HP} (hself : ∀ (t : Nat) (a1 : Int32) (a2 : Int32) (a3 : Int32) (a4 : Int32) (h w : ab_HP), (ab_shp t).1 = 5 → self t a1 a2 a3 a4 h = some w → ab_MET mX12_plans d 0 0 [va_rf (some t), .int a1, .int a2, .int a3, .int a4] h (ab_Pv w)) (ht0 : (ab_shp t0).1 = 5) : ∀ (n : Nat) (i1 : Int32) (i2 : Int32) (i3 : Int32) (i4 : Int32) (i5 : Int32) (h : ab_HP), f_X12_plans_l15 self t0 n i1 i2 i3 i4 i5 h = some r → ab_T mX12_plans (d + 8) 0 0 0 0 15 [some (va_rf (some t0)), some (.int i1), some (.int i2), some (.int i3), some (.int i4), some (.int i5), none] [] h (ab_Pv r) := by
  intro n
  induction n with
  | zero =>
    intro i1 i2 i3 i4 i5 h hf
    rw [f_X12_plans_l15] at hf
    cases hf
  | succ n ih =>
    intro i1 i2 i3 i4 i5 h hf
    rw [f_X12_plans_l15] at hf
    refine ab_iload (pc2 := 17) dX12_plans_15 rfl rfl ?_
    refine ab_aload_n (x := _) (pc2 := 18) dX12_plans_17 rfl rfl ?_
    refine ab_getR (pc2 := 21) rfl ht0 fa_X12_9 dX12_plans_18 rfl (fun T2 => ?_)
    refine ab_bipush (pc2 := 23) (v := 6) dX12_plans_21 rfl ab_k_bipush_6 ?_
    obtain ⟨q3, hq3, hf⟩ := ab_bind hf
    obtain ⟨b4, hf⟩ := ab_guard hf
    refine ab_iald (pc2 := 24) hq3 (T2 q3 hq3) (ab_in_vp b4) dX12_plans_23 rfl ?_
    refine ab_icmp_ge (tgt := 46) (pc2 := 27) dX12_plans_24 (by decide) rfl hf (fun c5 hf => ?_) (fun c5 hf => ?_)
    · refine ab_iconst (pc2 := 47) (v := 0) dX12_plans_46 rfl ab_k_iconst_0 ?_
      refine ab_istore (pc2 := 49) (lo2 := [some (va_rf _), some (.int _), some (.int _), some (.int _), some (.int _), some (.int _), none]) dX12_plans_47 rfl (by decide) rfl ?_
      exact ab_weak (x_X12_plans_l49 hself ht0 _ _ _ _ _ _ _ hf) (ab_leS (ab_leS (ab_leS (ab_leS (ab_leS (ab_leS (ab_leN ab_le0)))))))
    · refine ab_aload_n (x := _) (pc2 := 28) dX12_plans_27 rfl rfl ?_
      refine ab_iload_n (pc2 := 29) dX12_plans_28 rfl rfl ?_
      refine ab_iload_n (pc2 := 30) dX12_plans_29 rfl rfl ?_
      refine ab_iconst (pc2 := 31) (v := 1) dX12_plans_30 rfl ab_k_iconst_1 ?_
      refine ab_iload (pc2 := 33) dX12_plans_31 rfl rfl ?_
      refine ab_iconst (pc2 := 34) (v := 0) dX12_plans_33 rfl ab_k_iconst_0 ?_
      refine ab_iload_n (pc2 := 35) dX12_plans_34 rfl rfl ?_
      refine ab_iload (pc2 := 37) dX12_plans_35 rfl rfl ?_
      obtain ⟨w6, ew6, hf⟩ := ab_bind hf
      refine ab_callV (pc2 := 40) (st := []) rfl ht0 (by decide) (m_X12_tries (d := (d + 0)) hself ht0 ew6) mf_X12_tries tw_292 tw_291 ts_X12_tries (Or.inl (by decide +kernel)) dX12_plans_37 rfl (by omega) (Nat.le_refl _) (Nat.le_refl _) rfl (Nat.le_of_ble_eq_true rfl) (fun v u hp => ?_)
      obtain ⟨rfl, rfl⟩ := hp
      show ab_T _ _ _ _ 0 0 40 _ ([]) _ _
      refine ab_iinc (pc2 := 43) (v := _ + 1) (lo2 := [some (va_rf _), some (.int _), some (.int _), some (.int _), some (.int _), some (.int _), none]) dX12_plans_40 rfl rfl rfl (by decide) rfl ?_
      refine ab_goto (tgt := 15) dX12_plans_43 (by decide) ?_
      exact ab_weak (ih _ _ _ _ _ _ hf) (ab_leS (ab_leS (ab_leS (ab_leS (ab_leS (ab_leS (ab_leN ab_le0)))))))
set_option maxHeartbeats 4000000 in
set_option maxRecDepth 100000 in
theorem x_X12_plans {d : Nat} {self : Nat → Int32 → Int32 → Int32 → Int32 → ab_HP → Option ab_HP} {t0 : Nat} {i1 : Int32} {i2 : Int32} {i3 : Int32} {i4 : Int32} {h : ab_HP} {r : ab_HP} (hself : ∀ (t : Nat) (a1 : Int32) (a2 : Int32) (a3 : Int32) (a4 : Int32) (h w : ab_HP), (ab_shp t).1 = 5 → self t a1 a2 a3 a4 h = some w → ab_MET mX12_plans d 0 0 [va_rf (some t), .int a1, .int a2, .int a3, .int a4] h (ab_Pv w)) (ht0 : (ab_shp t0).1 = 5) (hf : f_X12_plans self t0 i1 i2 i3 i4 h = some r) : ab_T mX12_plans (d + 8) 0 0 0 0 0 [some (va_rf (some t0)), some (.int i1), some (.int i2), some (.int i3), some (.int i4), none, none] [] h (ab_Pv r) := by
  unfold f_X12_plans at hf
  refine ab_aload_n (x := _) (pc2 := 1) dX12_plans_0 rfl rfl ?_
  refine ab_iload_n (pc2 := 2) dX12_plans_1 rfl rfl ?_
  refine ab_iload_n (pc2 := 3) dX12_plans_2 rfl rfl ?_
  refine ab_iconst (pc2 := 4) (v := 0) dX12_plans_3 rfl ab_k_iconst_0 ?_
  refine ab_iconst (pc2 := 5) (v := 0) dX12_plans_4 rfl ab_k_iconst_0 ?_
  refine ab_iconst (pc2 := 6) (v := 0) dX12_plans_5 rfl ab_k_iconst_0 ?_
  refine ab_iload_n (pc2 := 7) dX12_plans_6 rfl rfl ?_
  refine ab_iload (pc2 := 9) dX12_plans_7 rfl rfl ?_
  obtain ⟨w1, ew1, hf⟩ := ab_bind hf
  refine ab_callV (pc2 := 12) (st := []) rfl ht0 (by decide) (m_X12_tries (d := (d + 0)) hself ht0 ew1) mf_X12_tries tw_292 tw_291 ts_X12_tries (Or.inl (by decide +kernel)) dX12_plans_9 rfl (by omega) (Nat.le_refl _) (Nat.le_refl _) rfl (Nat.le_of_ble_eq_true rfl) (fun v u hp => ?_)
  obtain ⟨rfl, rfl⟩ := hp
  show ab_T _ _ _ _ 0 0 12 _ ([]) _ _
  refine ab_iconst (pc2 := 13) (v := 0) dX12_plans_12 rfl ab_k_iconst_0 ?_
  refine ab_istore (pc2 := 15) (lo2 := [some (va_rf _), some (.int _), some (.int _), some (.int _), some (.int _), some (.int _), none]) dX12_plans_13 rfl (by decide) rfl ?_
  exact ab_weak (x_X12_plans_l15 hself ht0 _ _ _ _ _ _ _ hf) (ab_leS (ab_leS (ab_leS (ab_leS (ab_leS (ab_leS (ab_leN ab_le0)))))))
set_option maxHeartbeats 4000000 in
set_option maxRecDepth 100000 in
theorem m_X12_plans {d : Nat} {self : Nat → Int32 → Int32 → Int32 → Int32 → ab_HP → Option ab_HP} {t0 : Nat} {i1 : Int32} {i2 : Int32} {i3 : Int32} {i4 : Int32} {h : ab_HP} {r : ab_HP} (hself : ∀ (t : Nat) (a1 : Int32) (a2 : Int32) (a3 : Int32) (a4 : Int32) (h w : ab_HP), (ab_shp t).1 = 5 → self t a1 a2 a3 a4 h = some w → ab_MET mX12_plans d 0 0 [va_rf (some t), .int a1, .int a2, .int a3, .int a4] h (ab_Pv w)) (ht0 : (ab_shp t0).1 = 5) (hf : f_X12_plans self t0 i1 i2 i3 i4 h = some r) : ab_MET mX12_plans (d + 8) 0 0 [va_rf (some t0), .int i1, .int i2, .int i3, .int i4] h (ab_Pv r) := ab_met (by decide +kernel) (by decide +kernel) (Nat.le_of_ble_eq_true rfl) rfl (x_X12_plans hself ht0 hf)
set_option maxHeartbeats 4000000 in
set_option maxRecDepth 100000 in
theorem m_X12_plans_rec (n : Nat) {d : Nat} : ∀ {t0 : Nat} {i1 : Int32} {i2 : Int32} {i3 : Int32} {i4 : Int32} {h w : ab_HP}, (ab_shp t0).1 = 5 → f_X12_plans_rec n t0 i1 i2 i3 i4 h = some w → ab_MET mX12_plans (d + n * 8) 0 0 [va_rf (some t0), .int i1, .int i2, .int i3, .int i4] h (ab_Pv w) := by
  induction n with
  | zero => intro t0 i1 i2 i3 i4 h w ht hf; cases hf
  | succ n ih =>
    intro t0 i1 i2 i3 i4 h w ht hf
    rw [show d + (n + 1) * 8 = d + n * 8 + 8 by omega]
    exact m_X12_plans (d := d + n * 8) (fun _ _ _ _ _ _ _ g1 g2 => ih g1 g2) ht hf
set_option maxHeartbeats 4000000 in
set_option maxRecDepth 100000 in
theorem x_X12_plan_l71 {d : Nat} {t0 : Nat} {r : (Int32 × ab_HP)} (ht0 : (ab_shp t0).1 = 5) : ∀ (n : Nat) (i1 : Int32) (i2 : Int32) (i3 : Int32) (i5 : Int32) (h : ab_HP), f_X12_plan_l71 t0 n i1 i2 i3 i5 h = some r → ab_T mX12_plan (d + 25) 0 0 0 0 71 [some (va_rf (some t0)), some (.int i1), some (.int i2), some (.int i3), none, some (.int i5)] [] h (ab_Pi r.1 r.2) := by
  intro n
  induction n with
  | zero =>
    intro i1 i2 i3 i5 h hf
    rw [f_X12_plan_l71] at hf
    cases hf
  | succ n ih =>
    intro i1 i2 i3 i5 h hf
    rw [f_X12_plan_l71] at hf
    refine ab_iload (pc2 := 73) dX12_plan_71 rfl rfl ?_
    refine ab_bipush (pc2 := 75) (v := 10) dX12_plan_73 rfl ab_k_bipush_10 ?_
    refine ab_icmp_ge (tgt := 113) (pc2 := 78) dX12_plan_75 (by decide) rfl hf (fun c16 hf => ?_) (fun c16 hf => ?_)
    · refine ab_aload_n (x := _) (pc2 := 114) dX12_plan_113 rfl rfl ?_
      refine ab_iload_n (pc2 := 115) dX12_plan_114 rfl rfl ?_
      have hf := ab_let_e hf
      refine ab_putI (pc2 := 118) rfl ht0 fa_X12_256 (Or.inl rfl) (fun z => by cases z) dX12_plan_115 rfl ?_
      refine ab_aload_n (x := _) (pc2 := 119) dX12_plan_118 rfl rfl ?_
      refine ab_iconst (pc2 := 120) (v := 0) dX12_plan_119 rfl ab_k_iconst_0 ?_
      have hf := ab_let_e hf
      refine ab_putI (pc2 := 123) rfl ht0 fa_X12_266 (Or.inr ⟨rfl, (Or.inl rfl)⟩) (fun z => by cases z) dX12_plan_120 rfl ?_
      refine ab_aload_n (x := _) (pc2 := 124) dX12_plan_123 rfl rfl ?_
      refine ab_iload_n (pc2 := 125) dX12_plan_124 rfl rfl ?_
      refine ab_bipush (pc2 := 127) (v := (-4)) dX12_plan_125 rfl ab_k_bipush_m4 ?_
      refine ab_aload_n (x := _) (pc2 := 128) dX12_plan_127 rfl rfl ?_
      refine ab_getR (pc2 := 131) rfl ht0 fa_X12_9 dX12_plan_128 rfl (fun T19 => ?_)
      refine ab_iconst (pc2 := 132) (v := 0) dX12_plan_131 rfl ab_k_iconst_0 ?_
      obtain ⟨q20, hq20, hf⟩ := ab_bind hf
      obtain ⟨b21, hf⟩ := ab_guard hf
      refine ab_iald (pc2 := 133) hq20 (T19 q20 hq20) (ab_in_vp b21) dX12_plan_132 rfl ?_
      refine ab_aload_n (x := _) (pc2 := 134) dX12_plan_133 rfl rfl ?_
      refine ab_getR (pc2 := 137) rfl ht0 fa_X12_9 dX12_plan_134 rfl (fun T22 => ?_)
      refine ab_iconst (pc2 := 138) (v := 1) dX12_plan_137 rfl ab_k_iconst_1 ?_
      obtain ⟨q23, hq23, hf⟩ := ab_bind hf
      obtain ⟨b24, hf⟩ := ab_guard hf
      refine ab_iald (pc2 := 139) hq23 (T22 q23 hq23) (ab_in_vp b24) dX12_plan_138 rfl ?_
      obtain ⟨w25, ew25, hf⟩ := ab_bind hf
      refine ab_callV (pc2 := 142) (st := []) rfl ht0 (by decide) (m_X12_plans_rec 3 (d := (d + 0)) ht0 ew25) mf_X12_plans tw_290 tw_289 ts_X12_plans (Or.inl (by decide +kernel)) dX12_plan_139 rfl (by omega) (Nat.le_refl _) (Nat.le_refl _) rfl (Nat.le_of_ble_eq_true rfl) (fun v u hp => ?_)
      obtain ⟨rfl, rfl⟩ := hp
      show ab_T _ _ _ _ 0 0 142 _ ([]) _ _
      refine ab_iload_n (pc2 := 143) dX12_plan_142 rfl rfl ?_
      refine ab_if_ne (tgt := 154) (pc2 := 146) dX12_plan_143 (by decide) rfl hf (fun c26 hf => ?_) (fun c26 hf => ?_)
      · refine ab_aload_n (x := _) (pc2 := 155) dX12_plan_154 rfl rfl ?_
        refine ab_getI (pc2 := 158) rfl ht0 fa_X12_274 (by decide) dX12_plan_155 rfl ?_
        cases Option.some.inj hf
        exact ab_retI dX12_plan_158 (Or.inl rfl) (Nat.le_refl _) (Nat.le_refl _) ⟨rfl, rfl⟩
      · refine ab_aload_n (x := _) (pc2 := 147) dX12_plan_146 rfl rfl ?_
        refine ab_getL (pc2 := 150) rfl ht0 fa_X12_270 dX12_plan_147 rfl ?_
        refine ab_l2i (pc2 := 151) dX12_plan_150 rfl ?_
        refine ab_goto (tgt := 158) dX12_plan_151 (by decide) ?_
        cases Option.some.inj hf
        exact ab_retI dX12_plan_158 (Or.inl rfl) (Nat.le_refl _) (Nat.le_refl _) ⟨rfl, rfl⟩
    · refine ab_aload_n (x := _) (pc2 := 79) dX12_plan_78 rfl rfl ?_
      refine ab_getR (pc2 := 82) rfl ht0 fa_X12_28 dX12_plan_79 rfl (fun T27 => ?_)
      refine ab_bipush (pc2 := 84) (v := 100) dX12_plan_82 rfl ab_k_bipush_100 ?_
      refine ab_iload_n (pc2 := 85) dX12_plan_84 rfl rfl ?_
      refine ab_imul (pc2 := 86) dX12_plan_85 rfl ?_
      refine ab_iload (pc2 := 88) dX12_plan_86 rfl rfl ?_
      refine ab_iadd (pc2 := 89) dX12_plan_88 rfl ?_
      obtain ⟨q28, hq28, hf⟩ := ab_bind hf
      obtain ⟨b29, hf⟩ := ab_guard hf
      refine ab_iald (pc2 := 90) hq28 (T27 q28 hq28) (ab_in_vp b29) dX12_plan_89 rfl ?_
      refine ab_i2l (pc2 := 91) dX12_plan_90 rfl ?_
      refine ab_ldc2 (pc2 := 94) (v := (-999)) dX12_plan_91 rfl tw_296 ?_
      refine ab_ldc2 (pc2 := 97) (v := 999) dX12_plan_94 rfl tw_297 ?_
      obtain ⟨w30, ew30, hf⟩ := ab_bind hf
      refine ab_callS (pc2 := 100) (st := []) (m_X12_isIn (d := (d + 24)) ew30) mf_X12_isIn tw_101 tw_102 dX12_plan_97 rfl (by omega) (Nat.le_refl _) (Nat.le_refl _) rfl (Nat.le_of_ble_eq_true rfl) (fun v u hp => ?_)
      obtain ⟨rfl, rfl, z31⟩ := hp
      show ab_T _ _ _ _ 0 0 100 _ (.int _ :: []) _ _
      refine ab_if_ne (tgt := 107) (pc2 := 103) dX12_plan_100 (by decide) rfl hf (fun c32 hf => ?_) (fun c32 hf => ?_)
      · refine ab_iinc (pc2 := 110) (v := _ + 1) (lo2 := [some (va_rf _), some (.int _), some (.int _), some (.int _), none, some (.int _)]) dX12_plan_107 rfl rfl rfl (by decide) rfl ?_
        refine ab_goto (tgt := 71) dX12_plan_110 (by decide) ?_
        exact ab_weak (ih _ _ _ _ _ hf) (ab_leS (ab_leS (ab_leS (ab_leS (ab_leN (ab_leS ab_le0))))))
      · refine ab_ldcw (pc2 := 106) (v := (-1000000013)) dX12_plan_103 rfl tw_294 ?_
        cases Option.some.inj hf
        exact ab_retI dX12_plan_106 (Or.inl rfl) (Nat.le_refl _) (Nat.le_refl _) ⟨rfl, rfl⟩
set_option maxHeartbeats 4000000 in
set_option maxRecDepth 100000 in
theorem x_X12_plan {d : Nat} {t0 : Nat} {i1 : Int32} {i2 : Int32} {i3 : Int32} {h : ab_HP} {r : (Int32 × ab_HP)} (ht0 : (ab_shp t0).1 = 5) (hf : f_X12_plan t0 i1 i2 i3 h = some r) : ab_T mX12_plan (d + 25) 0 0 0 0 0 [some (va_rf (some t0)), some (.int i1), some (.int i2), some (.int i3), none, none] [] h (ab_Pi r.1 r.2) := by
  unfold f_X12_plan at hf
  refine ab_iload_n (pc2 := 1) dX12_plan_0 rfl rfl ?_
  refine ab_i2l (pc2 := 2) dX12_plan_1 rfl ?_
  refine ab_lconst (pc2 := 3) (v := 1) dX12_plan_2 rfl rfl ?_
  refine ab_ldc2 (pc2 := 6) (v := 2) dX12_plan_3 rfl tw_143 ?_
  obtain ⟨w1, ew1, hf⟩ := ab_bind hf
  refine ab_callS (pc2 := 9) (st := []) (m_X12_isIn (d := (d + 24)) ew1) mf_X12_isIn tw_101 tw_102 dX12_plan_6 rfl (by omega) (Nat.le_refl _) (Nat.le_refl _) rfl (Nat.le_of_ble_eq_true rfl) (fun v u hp => ?_)
  obtain ⟨rfl, rfl, z2⟩ := hp
  show ab_T _ _ _ _ 0 0 9 _ (.int _ :: []) _ _
  refine ab_if_eq (tgt := 29) (pc2 := 12) dX12_plan_9 (by decide) rfl hf (fun c3 hf => ?_) (fun c3 hf => ?_)
  · refine ab_ldcw (pc2 := 32) (v := (-1000000001)) dX12_plan_29 rfl tw_293 ?_
    cases Option.some.inj hf
    exact ab_retI dX12_plan_32 (Or.inl rfl) (Nat.le_refl _) (Nat.le_refl _) ⟨rfl, rfl⟩
  · refine ab_iload_n (pc2 := 13) dX12_plan_12 rfl rfl ?_
    obtain ⟨w4, ew4, hf⟩ := ab_bind hf
    refine ab_callS (pc2 := 16) (st := []) (m_X12_isShelf (d := (d + 23)) ew4) mf_X12_isShelf tw_103 tw_104 dX12_plan_13 rfl (by omega) (Nat.le_refl _) (Nat.le_refl _) rfl (Nat.le_of_ble_eq_true rfl) (fun v u hp => ?_)
    obtain ⟨rfl, rfl, z5⟩ := hp
    show ab_T _ _ _ _ 0 0 16 _ (.int _ :: []) _ _
    refine ab_if_eq (tgt := 29) (pc2 := 19) dX12_plan_16 (by decide) rfl hf (fun c6 hf => ?_) (fun c6 hf => ?_)
    · refine ab_ldcw (pc2 := 32) (v := (-1000000001)) dX12_plan_29 rfl tw_293 ?_
      cases Option.some.inj hf
      exact ab_retI dX12_plan_32 (Or.inl rfl) (Nat.le_refl _) (Nat.le_refl _) ⟨rfl, rfl⟩
    · refine ab_iload_n (pc2 := 20) dX12_plan_19 rfl rfl ?_
      refine ab_i2l (pc2 := 21) dX12_plan_20 rfl ?_
      refine ab_lconst (pc2 := 22) (v := 0) dX12_plan_21 rfl rfl ?_
      refine ab_lconst (pc2 := 23) (v := 1) dX12_plan_22 rfl rfl ?_
      obtain ⟨w7, ew7, hf⟩ := ab_bind hf
      refine ab_callS (pc2 := 26) (st := []) (m_X12_isIn (d := (d + 24)) ew7) mf_X12_isIn tw_101 tw_102 dX12_plan_23 rfl (by omega) (Nat.le_refl _) (Nat.le_refl _) rfl (Nat.le_of_ble_eq_true rfl) (fun v u hp => ?_)
      obtain ⟨rfl, rfl, z8⟩ := hp
      show ab_T _ _ _ _ 0 0 26 _ (.int _ :: []) _ _
      refine ab_if_ne (tgt := 33) (pc2 := 29) dX12_plan_26 (by decide) rfl hf (fun c9 hf => ?_) (fun c9 hf => ?_)
      · refine ab_aload_n (x := _) (pc2 := 34) dX12_plan_33 rfl rfl ?_
        refine ab_iload_n (pc2 := 35) dX12_plan_34 rfl rfl ?_
        refine ab_iconst (pc2 := 36) (v := (-1)) dX12_plan_35 rfl ab_k_iconst_m1 ?_
        obtain ⟨w10, ew10, hf⟩ := ab_bind hf
        refine ab_callV (pc2 := 39) (st := []) rfl ht0 (by decide) (m_X12_wrongRow (d := (d + 22)) ht0 ew10) mf_X12_wrongRow tw_122 tw_121 ts_X12_wrongRow (Or.inl (by decide +kernel)) dX12_plan_36 rfl (by omega) (Nat.le_refl _) (Nat.le_refl _) rfl (Nat.le_of_ble_eq_true rfl) (fun v u hp => ?_)
        obtain ⟨rfl, rfl⟩ := hp
        show ab_T _ _ _ _ 0 0 39 _ (.int _ :: []) _ _
        refine ab_istore (pc2 := 41) (lo2 := [some (va_rf _), some (.int _), some (.int _), some (.int _), some (.int _), none]) dX12_plan_39 rfl (by decide) rfl ?_
        refine ab_iload (pc2 := 43) dX12_plan_41 rfl rfl ?_
        refine ab_if_eq (tgt := 53) (pc2 := 46) dX12_plan_43 (by decide) rfl hf (fun c11 hf => ?_) (fun c11 hf => ?_)
        · refine ab_aload_n (x := _) (pc2 := 54) dX12_plan_53 rfl rfl ?_
          refine ab_getR (pc2 := 57) rfl ht0 fa_X12_25 dX12_plan_54 rfl (fun T12 => ?_)
          refine ab_iload_n (pc2 := 58) dX12_plan_57 rfl rfl ?_
          obtain ⟨q13, hq13, hf⟩ := ab_bind hf
          obtain ⟨b14, hf⟩ := ab_guard hf
          refine ab_iald (pc2 := 59) hq13 (T12 q13 hq13) (ab_in_vp b14) dX12_plan_58 rfl ?_
          refine ab_bipush (pc2 := 61) (v := 10) dX12_plan_59 rfl ab_k_bipush_10 ?_
          refine ab_icmp_eq (tgt := 68) (pc2 := 64) dX12_plan_61 (by decide) rfl hf (fun c15 hf => ?_) (fun c15 hf => ?_)
          · refine ab_iconst (pc2 := 69) (v := 0) dX12_plan_68 rfl ab_k_iconst_0 ?_
            refine ab_istore (pc2 := 71) (lo2 := [some (va_rf _), some (.int _), some (.int _), some (.int _), some (.int _), some (.int _)]) dX12_plan_69 rfl (by decide) rfl ?_
            exact ab_weak (x_X12_plan_l71 ht0 _ _ _ _ _ _ hf) (ab_leS (ab_leS (ab_leS (ab_leS (ab_leN (ab_leS ab_le0))))))
          · refine ab_ldcw (pc2 := 67) (v := (-1000000013)) dX12_plan_64 rfl tw_294 ?_
            cases Option.some.inj hf
            exact ab_retI dX12_plan_67 (Or.inl rfl) (Nat.le_refl _) (Nat.le_refl _) ⟨rfl, rfl⟩
        · refine ab_ldcw (pc2 := 49) (v := (-1000000000)) dX12_plan_46 rfl tw_295 ?_
          refine ab_iload (pc2 := 51) dX12_plan_49 rfl rfl ?_
          refine ab_iadd (pc2 := 52) dX12_plan_51 rfl ?_
          cases Option.some.inj hf
          exact ab_retI dX12_plan_52 (Or.inl rfl) (Nat.le_refl _) (Nat.le_refl _) ⟨rfl, rfl⟩
      · refine ab_ldcw (pc2 := 32) (v := (-1000000001)) dX12_plan_29 rfl tw_293 ?_
        cases Option.some.inj hf
        exact ab_retI dX12_plan_32 (Or.inl rfl) (Nat.le_refl _) (Nat.le_refl _) ⟨rfl, rfl⟩
set_option maxHeartbeats 4000000 in
set_option maxRecDepth 100000 in
theorem m_X12_plan {d : Nat} {t0 : Nat} {i1 : Int32} {i2 : Int32} {i3 : Int32} {h : ab_HP} {r : (Int32 × ab_HP)} (ht0 : (ab_shp t0).1 = 5) (hf : f_X12_plan t0 i1 i2 i3 h = some r) : ab_MET mX12_plan (d + 25) 0 0 [va_rf (some t0), .int i1, .int i2, .int i3] h (ab_Pi r.1 r.2) := ab_met (by decide +kernel) (by decide +kernel) (Nat.le_of_ble_eq_true rfl) rfl (x_X12_plan ht0 hf)
set_option maxHeartbeats 4000000 in
set_option maxRecDepth 100000 in
theorem x_X12_ever_l18 {d : Nat} {k9 : Int32 → Int32 → ab_HP → Option Int32} {t0 : Nat} {r : Int32} (ht0 : (ab_shp t0).1 = 5) (hk9 : ∀ (i1 : Int32) (i2 : Int32) (h : ab_HP), k9 i1 i2 h = some r → ab_T mX12_ever (d + 2) 0 0 0 0 9 [some (va_rf (some t0)), some (.int i1), some (.int i2), none, none] [] h (ab_Pi r h)) : ∀ (n : Nat) (i1 : Int32) (i3 : Int32) (i4 : Int32) (h : ab_HP), f_X12_ever_l18 k9 t0 n i1 i3 i4 h = some r → ab_T mX12_ever (d + 2) 0 0 0 0 18 [some (va_rf (some t0)), some (.int i1), none, some (.int i3), some (.int i4)] [] h (ab_Pi r h) := by
  intro n
  induction n with
  | zero =>
    intro i1 i3 i4 h hf
    rw [f_X12_ever_l18] at hf
    cases hf
  | succ n ih =>
    intro i1 i3 i4 h hf
    rw [f_X12_ever_l18] at hf
    refine ab_iload (pc2 := 20) dX12_ever_18 rfl rfl ?_
    refine ab_aload_n (x := _) (pc2 := 21) dX12_ever_20 rfl rfl ?_
    refine ab_getR (pc2 := 24) rfl ht0 fa_X12_9 dX12_ever_21 rfl (fun T5 => ?_)
    refine ab_bipush (pc2 := 26) (v := 6) dX12_ever_24 rfl ab_k_bipush_6 ?_
    obtain ⟨q6, hq6, hf⟩ := ab_bind hf
    obtain ⟨b7, hf⟩ := ab_guard hf
    refine ab_iald (pc2 := 27) hq6 (T5 q6 hq6) (ab_in_vp b7) dX12_ever_26 rfl ?_
    refine ab_icmp_ge (tgt := 70) (pc2 := 30) dX12_ever_27 (by decide) rfl hf (fun c8 hf => ?_) (fun c8 hf => ?_)
    · refine ab_iload_n (pc2 := 71) dX12_ever_70 rfl rfl ?_
      refine ab_iload_n (pc2 := 72) dX12_ever_71 rfl rfl ?_
      refine ab_icmp_eq (tgt := 79) (pc2 := 75) dX12_ever_72 (by decide) rfl hf (fun c9 hf => ?_) (fun c9 hf => ?_)
      · refine ab_iconst (pc2 := 80) (v := 0) dX12_ever_79 rfl ab_k_iconst_0 ?_
        refine ab_istore_n (pc2 := 81) (lo2 := [some (va_rf _), some (.int _), some (.int _), some (.int _), some (.int _)]) dX12_ever_80 rfl (by decide) rfl ?_
        refine ab_goto (tgt := 9) dX12_ever_81 (by decide) ?_
        exact ab_weak (hk9 _ _ _ hf) (ab_leS (ab_leS (ab_leS (ab_leN (ab_leN ab_le0)))))
      · refine ab_iconst (pc2 := 76) (v := 1) dX12_ever_75 rfl ab_k_iconst_1 ?_
        refine ab_goto (tgt := 80) dX12_ever_76 (by decide) ?_
        refine ab_istore_n (pc2 := 81) (lo2 := [some (va_rf _), some (.int _), some (.int _), some (.int _), some (.int _)]) dX12_ever_80 rfl (by decide) rfl ?_
        refine ab_goto (tgt := 9) dX12_ever_81 (by decide) ?_
        exact ab_weak (hk9 _ _ _ hf) (ab_leS (ab_leS (ab_leS (ab_leN (ab_leN ab_le0)))))
    · refine ab_aload_n (x := _) (pc2 := 31) dX12_ever_30 rfl rfl ?_
      refine ab_iload (pc2 := 33) dX12_ever_31 rfl rfl ?_
      refine ab_iconst (pc2 := 34) (v := 0) dX12_ever_33 rfl ab_k_iconst_0 ?_
      obtain ⟨w10, ew10, hf⟩ := ab_bind hf
      refine ab_callV (pc2 := 37) (st := []) rfl ht0 (by decide) (m_X12_get (d := (d + 1)) ht0 ew10) mf_X12_get tw_129 tw_128 ts_X12_get (Or.inl (by decide +kernel)) dX12_ever_34 rfl (by omega) (Nat.le_refl _) (Nat.le_refl _) rfl (Nat.le_of_ble_eq_true rfl) (fun v u hp => ?_)
      obtain ⟨rfl, rfl⟩ := hp
      show ab_T _ _ _ _ 0 0 37 _ (.int _ :: []) _ _
      refine ab_bipush (pc2 := 39) (v := 6) dX12_ever_37 rfl ab_k_bipush_6 ?_
      refine ab_icmp_eq (tgt := 64) (pc2 := 42) dX12_ever_39 (by decide) rfl hf (fun c11 hf => ?_) (fun c11 hf => ?_)
      · refine ab_iinc (pc2 := 67) (v := _ + 1) (lo2 := [some (va_rf _), some (.int _), none, some (.int _), some (.int _)]) dX12_ever_64 rfl rfl rfl (by decide) rfl ?_
        refine ab_goto (tgt := 18) dX12_ever_67 (by decide) ?_
        exact ab_weak (ih _ _ _ _ hf) (ab_leS (ab_leS (ab_leN (ab_leS (ab_leS ab_le0)))))
      · refine ab_aload_n (x := _) (pc2 := 43) dX12_ever_42 rfl rfl ?_
        refine ab_iload (pc2 := 45) dX12_ever_43 rfl rfl ?_
        refine ab_iconst (pc2 := 46) (v := 1) dX12_ever_45 rfl ab_k_iconst_1 ?_
        obtain ⟨w12, ew12, hf⟩ := ab_bind hf
        refine ab_callV (pc2 := 49) (st := []) rfl ht0 (by decide) (m_X12_get (d := (d + 1)) ht0 ew12) mf_X12_get tw_129 tw_128 ts_X12_get (Or.inl (by decide +kernel)) dX12_ever_46 rfl (by omega) (Nat.le_refl _) (Nat.le_refl _) rfl (Nat.le_of_ble_eq_true rfl) (fun v u hp => ?_)
        obtain ⟨rfl, rfl⟩ := hp
        show ab_T _ _ _ _ 0 0 49 _ (.int _ :: []) _ _
        refine ab_iload_n (pc2 := 50) dX12_ever_49 rfl rfl ?_
        refine ab_iconst (pc2 := 51) (v := (-1)) dX12_ever_50 rfl ab_k_iconst_m1 ?_
        refine ab_ixor (pc2 := 52) dX12_ever_51 rfl ?_
        refine ab_iand (pc2 := 53) dX12_ever_52 rfl ?_
        refine ab_if_ne (tgt := 64) (pc2 := 56) dX12_ever_53 (by decide) rfl hf (fun c13 hf => ?_) (fun c13 hf => ?_)
        · refine ab_iinc (pc2 := 67) (v := _ + 1) (lo2 := [some (va_rf _), some (.int _), none, some (.int _), some (.int _)]) dX12_ever_64 rfl rfl rfl (by decide) rfl ?_
          refine ab_goto (tgt := 18) dX12_ever_67 (by decide) ?_
          exact ab_weak (ih _ _ _ _ hf) (ab_leS (ab_leS (ab_leN (ab_leS (ab_leS ab_le0)))))
        · refine ab_aload_n (x := _) (pc2 := 57) dX12_ever_56 rfl rfl ?_
          refine ab_iload (pc2 := 59) dX12_ever_57 rfl rfl ?_
          refine ab_iload_n (pc2 := 60) dX12_ever_59 rfl rfl ?_
          obtain ⟨w14, ew14, hf⟩ := ab_bind hf
          refine ab_callV (pc2 := 63) (st := []) rfl ht0 (by decide) (m_X12_marksBy (d := (d + 0)) ht0 ew14) mf_X12_marksBy tw_208 tw_207 ts_X12_marksBy (Or.inl (by decide +kernel)) dX12_ever_60 rfl (by omega) (Nat.le_refl _) (Nat.le_refl _) rfl (Nat.le_of_ble_eq_true rfl) (fun v u hp => ?_)
          obtain ⟨rfl, rfl⟩ := hp
          show ab_T _ _ _ _ 0 0 63 _ (.int _ :: []) _ _
          refine ab_istore_n (pc2 := 64) (lo2 := [some (va_rf _), some (.int _), none, some (.int _), some (.int _)]) dX12_ever_63 rfl (by decide) rfl ?_
          refine ab_iinc (pc2 := 67) (v := _ + 1) (lo2 := [some (va_rf _), some (.int _), none, some (.int _), some (.int _)]) dX12_ever_64 rfl rfl rfl (by decide) rfl ?_
          refine ab_goto (tgt := 18) dX12_ever_67 (by decide) ?_
          exact ab_weak (ih _ _ _ _ hf) (ab_leS (ab_leS (ab_leN (ab_leS (ab_leS ab_le0)))))
set_option maxHeartbeats 4000000 in
set_option maxRecDepth 100000 in
theorem x_X12_ever_l9 {d : Nat} {t0 : Nat} {r : Int32} (ht0 : (ab_shp t0).1 = 5) : ∀ (n : Nat) (i1 : Int32) (i2 : Int32) (h : ab_HP), f_X12_ever_l9 t0 n i1 i2 h = some r → ab_T mX12_ever (d + 2) 0 0 0 0 9 [some (va_rf (some t0)), some (.int i1), some (.int i2), none, none] [] h (ab_Pi r h) := by
  intro n
  induction n with
  | zero =>
    intro i1 i2 h hf
    rw [f_X12_ever_l9] at hf
    cases hf
  | succ n ih =>
    intro i1 i2 h hf
    rw [f_X12_ever_l9] at hf
    refine ab_iload_n (pc2 := 10) dX12_ever_9 rfl rfl ?_
    refine ab_if_eq (tgt := 84) (pc2 := 13) dX12_ever_10 (by decide) rfl hf (fun c4 hf => ?_) (fun c4 hf => ?_)
    · refine ab_iload_n (pc2 := 85) dX12_ever_84 rfl rfl ?_
      cases Option.some.inj hf
      exact ab_retI dX12_ever_85 (Or.inl rfl) (Nat.le_refl _) (Nat.le_refl _) ⟨rfl, rfl⟩
    · refine ab_iload_n (pc2 := 14) dX12_ever_13 rfl rfl ?_
      refine ab_istore_n (pc2 := 15) (lo2 := [some (va_rf _), some (.int _), some (.int _), some (.int _), none]) dX12_ever_14 rfl (by decide) rfl ?_
      refine ab_iconst (pc2 := 16) (v := 0) dX12_ever_15 rfl ab_k_iconst_0 ?_
      refine ab_istore (pc2 := 18) (lo2 := [some (va_rf _), some (.int _), some (.int _), some (.int _), some (.int _)]) dX12_ever_16 rfl (by decide) rfl ?_
      exact ab_weak (x_X12_ever_l18 ht0 ih _ _ _ _ _ hf) (ab_leS (ab_leS (ab_leN (ab_leS (ab_leS ab_le0)))))
set_option maxHeartbeats 4000000 in
set_option maxRecDepth 100000 in
theorem x_X12_ever {d : Nat} {t0 : Nat} {h : ab_HP} {r : Int32} (ht0 : (ab_shp t0).1 = 5) (hf : f_X12_ever t0 h = some r) : ab_T mX12_ever (d + 2) 0 0 0 0 0 [some (va_rf (some t0)), none, none, none, none] [] h (ab_Pi r h) := by
  unfold f_X12_ever at hf
  refine ab_aload_n (x := _) (pc2 := 1) dX12_ever_0 rfl rfl ?_
  refine ab_getR (pc2 := 4) rfl ht0 fa_X12_9 dX12_ever_1 rfl (fun T1 => ?_)
  refine ab_iconst (pc2 := 5) (v := 0) dX12_ever_4 rfl ab_k_iconst_0 ?_
  obtain ⟨q2, hq2, hf⟩ := ab_bind hf
  obtain ⟨b3, hf⟩ := ab_guard hf
  refine ab_iald (pc2 := 6) hq2 (T1 q2 hq2) (ab_in_vp b3) dX12_ever_5 rfl ?_
  refine ab_istore_n (pc2 := 7) (lo2 := [some (va_rf _), some (.int _), none, none, none]) dX12_ever_6 rfl (by decide) rfl ?_
  refine ab_iconst (pc2 := 8) (v := 1) dX12_ever_7 rfl ab_k_iconst_1 ?_
  refine ab_istore_n (pc2 := 9) (lo2 := [some (va_rf _), some (.int _), some (.int _), none, none]) dX12_ever_8 rfl (by decide) rfl ?_
  exact ab_weak (x_X12_ever_l9 ht0 _ _ _ _ hf) (ab_leS (ab_leS (ab_leS (ab_leN (ab_leN ab_le0)))))
set_option maxHeartbeats 4000000 in
set_option maxRecDepth 100000 in
theorem m_X12_ever {d : Nat} {t0 : Nat} {h : ab_HP} {r : Int32} (ht0 : (ab_shp t0).1 = 5) (hf : f_X12_ever t0 h = some r) : ab_MET mX12_ever (d + 2) 0 0 [va_rf (some t0)] h (ab_Pi r h) := ab_met (by decide +kernel) (by decide +kernel) (Nat.le_of_ble_eq_true rfl) rfl (x_X12_ever ht0 hf)
set_option maxHeartbeats 4000000 in
set_option maxRecDepth 100000 in
theorem x_X12_help_l4 {d : Nat} {t0 : Nat} {r : Int32} (ht0 : (ab_shp t0).1 = 5) : ∀ (n : Nat) (i1 : Int32) (i2 : Int32) (h : ab_HP), f_X12_help_l4 t0 n i1 i2 h = some r → ab_T mX12_help (d + 3) 0 0 0 0 4 [some (va_rf (some t0)), some (.int i1), some (.int i2)] [] h (ab_Pi r h) := by
  intro n
  induction n with
  | zero =>
    intro i1 i2 h hf
    rw [f_X12_help_l4] at hf
    cases hf
  | succ n ih =>
    intro i1 i2 h hf
    rw [f_X12_help_l4] at hf
    refine ab_iload_n (pc2 := 5) dX12_help_4 rfl rfl ?_
    refine ab_aload_n (x := _) (pc2 := 6) dX12_help_5 rfl rfl ?_
    refine ab_getR (pc2 := 9) rfl ht0 fa_X12_9 dX12_help_6 rfl (fun T1 => ?_)
    refine ab_bipush (pc2 := 11) (v := 6) dX12_help_9 rfl ab_k_bipush_6 ?_
    obtain ⟨q2, hq2, hf⟩ := ab_bind hf
    obtain ⟨b3, hf⟩ := ab_guard hf
    refine ab_iald (pc2 := 12) hq2 (T1 q2 hq2) (ab_in_vp b3) dX12_help_11 rfl ?_
    refine ab_icmp_ge (tgt := 70) (pc2 := 15) dX12_help_12 (by decide) rfl hf (fun c4 hf => ?_) (fun c4 hf => ?_)
    · refine ab_iload_n (pc2 := 71) dX12_help_70 rfl rfl ?_
      cases Option.some.inj hf
      exact ab_retI dX12_help_71 (Or.inl rfl) (Nat.le_refl _) (Nat.le_refl _) ⟨rfl, rfl⟩
    · refine ab_aload_n (x := _) (pc2 := 16) dX12_help_15 rfl rfl ?_
      refine ab_iload_n (pc2 := 17) dX12_help_16 rfl rfl ?_
      refine ab_iconst (pc2 := 18) (v := 0) dX12_help_17 rfl ab_k_iconst_0 ?_
      obtain ⟨w5, ew5, hf⟩ := ab_bind hf
      refine ab_callV (pc2 := 21) (st := []) rfl ht0 (by decide) (m_X12_get (d := (d + 2)) ht0 ew5) mf_X12_get tw_129 tw_128 ts_X12_get (Or.inl (by decide +kernel)) dX12_help_18 rfl (by omega) (Nat.le_refl _) (Nat.le_refl _) rfl (Nat.le_of_ble_eq_true rfl) (fun v u hp => ?_)
      obtain ⟨rfl, rfl⟩ := hp
      show ab_T _ _ _ _ 0 0 21 _ (.int _ :: []) _ _
      refine ab_bipush (pc2 := 23) (v := 6) dX12_help_21 rfl ab_k_bipush_6 ?_
      refine ab_icmp_ne (tgt := 64) (pc2 := 26) dX12_help_23 (by decide) rfl hf (fun c6 hf => ?_) (fun c6 hf => ?_)
      · refine ab_iinc (pc2 := 67) (v := _ + 1) (lo2 := [some (va_rf _), some (.int _), some (.int _)]) dX12_help_64 rfl rfl rfl (by decide) rfl ?_
        refine ab_goto (tgt := 4) dX12_help_67 (by decide) ?_
        exact ab_weak (ih _ _ _ hf) (ab_leS (ab_leS (ab_leS ab_le0)))
      · refine ab_aload_n (x := _) (pc2 := 27) dX12_help_26 rfl rfl ?_
        refine ab_iload_n (pc2 := 28) dX12_help_27 rfl rfl ?_
        refine ab_aload_n (x := _) (pc2 := 29) dX12_help_28 rfl rfl ?_
        refine ab_getR (pc2 := 32) rfl ht0 fa_X12_9 dX12_help_29 rfl (fun T7 => ?_)
        refine ab_iconst (pc2 := 33) (v := 0) dX12_help_32 rfl ab_k_iconst_0 ?_
        obtain ⟨q8, hq8, hf⟩ := ab_bind hf
        obtain ⟨b9, hf⟩ := ab_guard hf
        refine ab_iald (pc2 := 34) hq8 (T7 q8 hq8) (ab_in_vp b9) dX12_help_33 rfl ?_
        refine ab_aload_n (x := _) (pc2 := 35) dX12_help_34 rfl rfl ?_
        refine ab_getR (pc2 := 38) rfl ht0 fa_X12_9 dX12_help_35 rfl (fun T10 => ?_)
        refine ab_iconst (pc2 := 39) (v := 1) dX12_help_38 rfl ab_k_iconst_1 ?_
        obtain ⟨q11, hq11, hf⟩ := ab_bind hf
        obtain ⟨b12, hf⟩ := ab_guard hf
        refine ab_iald (pc2 := 40) hq11 (T10 q11 hq11) (ab_in_vp b12) dX12_help_39 rfl ?_
        obtain ⟨w13, ew13, hf⟩ := ab_bind hf
        refine ab_callV (pc2 := 43) (st := []) rfl ht0 (by decide) (m_X12_mayBy (d := (d + 0)) ht0 ew13) mf_X12_mayBy tw_153 tw_152 ts_X12_mayBy (Or.inl (by decide +kernel)) dX12_help_40 rfl (by omega) (Nat.le_refl _) (Nat.le_refl _) rfl (Nat.le_of_ble_eq_true rfl) (fun v u hp => ?_)
        obtain ⟨rfl, rfl, z14⟩ := hp
        show ab_T _ _ _ _ 0 0 43 _ (.int _ :: []) _ _
        refine ab_if_eq (tgt := 64) (pc2 := 46) dX12_help_43 (by decide) rfl hf (fun c15 hf => ?_) (fun c15 hf => ?_)
        · refine ab_iinc (pc2 := 67) (v := _ + 1) (lo2 := [some (va_rf _), some (.int _), some (.int _)]) dX12_help_64 rfl rfl rfl (by decide) rfl ?_
          refine ab_goto (tgt := 4) dX12_help_67 (by decide) ?_
          exact ab_weak (ih _ _ _ hf) (ab_leS (ab_leS (ab_leS ab_le0)))
        · refine ab_iload_n (pc2 := 47) dX12_help_46 rfl rfl ?_
          refine ab_aload_n (x := _) (pc2 := 48) dX12_help_47 rfl rfl ?_
          refine ab_getR (pc2 := 51) rfl ht0 fa_X12_9 dX12_help_48 rfl (fun T16 => ?_)
          refine ab_iconst (pc2 := 52) (v := 0) dX12_help_51 rfl ab_k_iconst_0 ?_
          obtain ⟨q17, hq17, hf⟩ := ab_bind hf
          obtain ⟨b18, hf⟩ := ab_guard hf
          refine ab_iald (pc2 := 53) hq17 (T16 q17 hq17) (ab_in_vp b18) dX12_help_52 rfl ?_
          refine ab_iconst (pc2 := 54) (v := 1) dX12_help_53 rfl ab_k_iconst_1 ?_
          refine ab_aload_n (x := _) (pc2 := 55) dX12_help_54 rfl rfl ?_
          refine ab_iload_n (pc2 := 56) dX12_help_55 rfl rfl ?_
          refine ab_iconst (pc2 := 57) (v := 2) dX12_help_56 rfl ab_k_iconst_2 ?_
          obtain ⟨w19, ew19, hf⟩ := ab_bind hf
          refine ab_callV (pc2 := 60) (st := [_, _, _]) rfl ht0 (by decide) (m_X12_get (d := (d + 2)) ht0 ew19) mf_X12_get tw_129 tw_128 ts_X12_get (Or.inl (by decide +kernel)) dX12_help_57 rfl (by omega) (Nat.le_refl _) (Nat.le_refl _) rfl (Nat.le_of_ble_eq_true rfl) (fun v u hp => ?_)
          obtain ⟨rfl, rfl⟩ := hp
          show ab_T _ _ _ _ 0 0 60 _ (.int _ :: [_, _, _]) _ _
          refine ab_ishl (pc2 := 61) dX12_help_60 rfl ?_
          refine ab_iand (pc2 := 62) dX12_help_61 rfl ?_
          refine ab_ior (pc2 := 63) dX12_help_62 rfl ?_
          have hf := ab_let_e hf
          refine ab_istore_n (pc2 := 64) (lo2 := [some (va_rf _), some (.int _), some (.int _)]) dX12_help_63 rfl (by decide) rfl ?_
          refine ab_iinc (pc2 := 67) (v := _ + 1) (lo2 := [some (va_rf _), some (.int _), some (.int _)]) dX12_help_64 rfl rfl rfl (by decide) rfl ?_
          refine ab_goto (tgt := 4) dX12_help_67 (by decide) ?_
          exact ab_weak (ih _ _ _ hf) (ab_leS (ab_leS (ab_leS ab_le0)))
set_option maxHeartbeats 4000000 in
set_option maxRecDepth 100000 in
theorem x_X12_help {d : Nat} {t0 : Nat} {h : ab_HP} {r : Int32} (ht0 : (ab_shp t0).1 = 5) (hf : f_X12_help t0 h = some r) : ab_T mX12_help (d + 3) 0 0 0 0 0 [some (va_rf (some t0)), none, none] [] h (ab_Pi r h) := by
  unfold f_X12_help at hf
  refine ab_iconst (pc2 := 1) (v := 0) dX12_help_0 rfl ab_k_iconst_0 ?_
  refine ab_istore_n (pc2 := 2) (lo2 := [some (va_rf _), some (.int _), none]) dX12_help_1 rfl (by decide) rfl ?_
  refine ab_iconst (pc2 := 3) (v := 0) dX12_help_2 rfl ab_k_iconst_0 ?_
  refine ab_istore_n (pc2 := 4) (lo2 := [some (va_rf _), some (.int _), some (.int _)]) dX12_help_3 rfl (by decide) rfl ?_
  exact ab_weak (x_X12_help_l4 ht0 _ _ _ _ hf) (ab_leS (ab_leS (ab_leS ab_le0)))
set_option maxHeartbeats 4000000 in
set_option maxRecDepth 100000 in
theorem m_X12_help {d : Nat} {t0 : Nat} {h : ab_HP} {r : Int32} (ht0 : (ab_shp t0).1 = 5) (hf : f_X12_help t0 h = some r) : ab_MET mX12_help (d + 3) 0 0 [va_rf (some t0)] h (ab_Pi r h) := ab_met (by decide +kernel) (by decide +kernel) (Nat.le_of_ble_eq_true rfl) rfl (x_X12_help ht0 hf)
set_option maxHeartbeats 4000000 in
set_option maxRecDepth 100000 in
theorem x_X12_two_l224 {d : Nat} {t0 : Nat} {r : (Int32 × ab_HP)} (ht0 : (ab_shp t0).1 = 5) : ∀ (n : Nat) (i5 : Int32) (i7 : Int32) (i8 : Int32) (h : ab_HP), f_X12_two_l224 t0 n i5 i7 i8 h = some r → ab_T mX12_two (d + 7) 0 0 0 0 224 [some (va_rf (some t0)), none, none, none, none, some (.int i5), none, some (.int i7), some (.int i8), none] [] h (ab_Pi r.1 r.2) := by
  intro n
  induction n with
  | zero =>
    intro i5 i7 i8 h hf
    rw [f_X12_two_l224] at hf
    cases hf
  | succ n ih =>
    intro i5 i7 i8 h hf
    rw [f_X12_two_l224] at hf
    refine ab_iload (pc2 := 226) dX12_two_224 rfl rfl ?_
    refine ab_aload_n (x := _) (pc2 := 227) dX12_two_226 rfl rfl ?_
    refine ab_getI (pc2 := 230) rfl ht0 fa_X12_166 (by decide) dX12_two_227 rfl ?_
    refine ab_icmp_ge (tgt := 281) (pc2 := 233) dX12_two_230 (by decide) rfl hf (fun c25 hf => ?_) (fun c25 hf => ?_)
    · refine ab_iload (pc2 := 283) dX12_two_281 rfl rfl ?_
      cases Option.some.inj hf
      exact ab_retI dX12_two_283 (Or.inl rfl) (Nat.le_refl _) (Nat.le_refl _) ⟨rfl, rfl⟩
    · refine ab_iload (pc2 := 235) dX12_two_233 rfl rfl ?_
      refine ab_aload_n (x := _) (pc2 := 236) dX12_two_235 rfl rfl ?_
      refine ab_getR (pc2 := 239) rfl ht0 fa_X12_58 dX12_two_236 rfl (fun T26 => ?_)
      refine ab_iload (pc2 := 241) dX12_two_239 rfl rfl ?_
      obtain ⟨q27, hq27, hf⟩ := ab_bind hf
      obtain ⟨b28, hf⟩ := ab_guard hf
      refine ab_iald (pc2 := 242) hq27 (T26 q27 hq27) (ab_in_vp b28) dX12_two_241 rfl ?_
      refine ab_iload (pc2 := 244) dX12_two_242 rfl rfl ?_
      refine ab_icmp_ne (tgt := 271) (pc2 := 247) dX12_two_244 (by decide) rfl hf (fun c29 hf => ?_) (fun c29 hf => ?_)
      · refine ab_iconst (pc2 := 272) (v := 0) dX12_two_271 rfl ab_k_iconst_0 ?_
        refine ab_iadd (pc2 := 273) dX12_two_272 rfl ?_
        refine ab_istore (pc2 := 275) (lo2 := [some (va_rf _), none, none, none, none, some (.int _), none, some (.int _), some (.int _), none]) dX12_two_273 rfl (by decide) rfl ?_
        refine ab_iinc (pc2 := 278) (v := _ + 1) (lo2 := [some (va_rf _), none, none, none, none, some (.int _), none, some (.int _), some (.int _), none]) dX12_two_275 rfl rfl rfl (by decide) rfl ?_
        refine ab_goto (tgt := 224) dX12_two_278 (by decide) ?_
        exact ab_weak (ih _ _ _ _ hf) (ab_leS (ab_leN (ab_leN (ab_leN (ab_leN (ab_leS (ab_leN (ab_leS (ab_leS (ab_leN ab_le0))))))))))
      · refine ab_aload_n (x := _) (pc2 := 248) dX12_two_247 rfl rfl ?_
        refine ab_iload (pc2 := 250) dX12_two_248 rfl rfl ?_
        obtain ⟨w30, ew30, hf⟩ := ab_bind hf
        refine ab_callV (pc2 := 253) (st := [_]) rfl ht0 (by decide) (m_X12_holds (d := (d + 6)) ht0 ew30) mf_X12_holds tw_212 tw_211 ts_X12_holds (Or.inl (by decide +kernel)) dX12_two_250 rfl (by omega) (Nat.le_refl _) (Nat.le_refl _) rfl (Nat.le_of_ble_eq_true rfl) (fun v u hp => ?_)
        obtain ⟨rfl, rfl, z31⟩ := hp
        show ab_T _ _ _ _ 0 0 253 _ (.int _ :: [_]) _ _
        refine ab_if_ne (tgt := 267) (pc2 := 256) dX12_two_253 (by decide) rfl hf (fun c32 hf => ?_) (fun c32 hf => ?_)
        · refine ab_iconst (pc2 := 268) (v := 1) dX12_two_267 rfl ab_k_iconst_1 ?_
          refine ab_goto (tgt := 272) dX12_two_268 (by decide) ?_
          refine ab_iadd (pc2 := 273) dX12_two_272 rfl ?_
          refine ab_istore (pc2 := 275) (lo2 := [some (va_rf _), none, none, none, none, some (.int _), none, some (.int _), some (.int _), none]) dX12_two_273 rfl (by decide) rfl ?_
          refine ab_iinc (pc2 := 278) (v := _ + 1) (lo2 := [some (va_rf _), none, none, none, none, some (.int _), none, some (.int _), some (.int _), none]) dX12_two_275 rfl rfl rfl (by decide) rfl ?_
          refine ab_goto (tgt := 224) dX12_two_278 (by decide) ?_
          exact ab_weak (ih _ _ _ _ hf) (ab_leS (ab_leN (ab_leN (ab_leN (ab_leN (ab_leS (ab_leN (ab_leS (ab_leS (ab_leN ab_le0))))))))))
        · refine ab_aload_n (x := _) (pc2 := 257) dX12_two_256 rfl rfl ?_
          refine ab_getR (pc2 := 260) rfl ht0 fa_X12_49 dX12_two_257 rfl (fun T33 => ?_)
          refine ab_iload (pc2 := 262) dX12_two_260 rfl rfl ?_
          obtain ⟨q34, hq34, hf⟩ := ab_bind hf
          obtain ⟨b35, hf⟩ := ab_guard hf
          refine ab_iald (pc2 := 263) hq34 (T33 q34 hq34) (ab_in_vp b35) dX12_two_262 rfl ?_
          refine ab_iconst (pc2 := 264) (v := 4) dX12_two_263 rfl ab_k_iconst_4 ?_
          refine ab_icmp_ne (tgt := 271) (pc2 := 267) dX12_two_264 (by decide) rfl hf (fun c36 hf => ?_) (fun c36 hf => ?_)
          · refine ab_iconst (pc2 := 272) (v := 0) dX12_two_271 rfl ab_k_iconst_0 ?_
            refine ab_iadd (pc2 := 273) dX12_two_272 rfl ?_
            refine ab_istore (pc2 := 275) (lo2 := [some (va_rf _), none, none, none, none, some (.int _), none, some (.int _), some (.int _), none]) dX12_two_273 rfl (by decide) rfl ?_
            refine ab_iinc (pc2 := 278) (v := _ + 1) (lo2 := [some (va_rf _), none, none, none, none, some (.int _), none, some (.int _), some (.int _), none]) dX12_two_275 rfl rfl rfl (by decide) rfl ?_
            refine ab_goto (tgt := 224) dX12_two_278 (by decide) ?_
            exact ab_weak (ih _ _ _ _ hf) (ab_leS (ab_leN (ab_leN (ab_leN (ab_leN (ab_leS (ab_leN (ab_leS (ab_leS (ab_leN ab_le0))))))))))
          · refine ab_iconst (pc2 := 268) (v := 1) dX12_two_267 rfl ab_k_iconst_1 ?_
            refine ab_goto (tgt := 272) dX12_two_268 (by decide) ?_
            refine ab_iadd (pc2 := 273) dX12_two_272 rfl ?_
            refine ab_istore (pc2 := 275) (lo2 := [some (va_rf _), none, none, none, none, some (.int _), none, some (.int _), some (.int _), none]) dX12_two_273 rfl (by decide) rfl ?_
            refine ab_iinc (pc2 := 278) (v := _ + 1) (lo2 := [some (va_rf _), none, none, none, none, some (.int _), none, some (.int _), some (.int _), none]) dX12_two_275 rfl rfl rfl (by decide) rfl ?_
            refine ab_goto (tgt := 224) dX12_two_278 (by decide) ?_
            exact ab_weak (ih _ _ _ _ hf) (ab_leS (ab_leN (ab_leN (ab_leN (ab_leN (ab_leS (ab_leN (ab_leS (ab_leS (ab_leN ab_le0))))))))))
set_option maxHeartbeats 4000000 in
set_option maxRecDepth 100000 in
theorem x_X12_two_l92 {d : Nat} {k82 : Int32 → Int32 → Int32 → Int32 → Int32 → Int32 → ab_HP → Option (Int32 × ab_HP)} {t0 : Nat} {r : (Int32 × ab_HP)} (ht0 : (ab_shp t0).1 = 5) (hk82 : ∀ (i1 : Int32) (i2 : Int32) (i3 : Int32) (i4 : Int32) (i5 : Int32) (i7 : Int32) (h : ab_HP), k82 i1 i2 i3 i4 i5 i7 h = some r → ab_T mX12_two (d + 7) 0 0 0 0 82 [some (va_rf (some t0)), some (.int i1), some (.int i2), some (.int i3), some (.int i4), some (.int i5), none, some (.int i7), none, none] [] h (ab_Pi r.1 r.2)) : ∀ (n : Nat) (i1 : Int32) (i2 : Int32) (i3 : Int32) (i4 : Int32) (i5 : Int32) (i7 : Int32) (i8 : Int32) (h : ab_HP), f_X12_two_l92 k82 t0 n i1 i2 i3 i4 i5 i7 i8 h = some r → ab_T mX12_two (d + 7) 0 0 0 0 92 [some (va_rf (some t0)), some (.int i1), some (.int i2), some (.int i3), some (.int i4), some (.int i5), none, some (.int i7), some (.int i8), none] [] h (ab_Pi r.1 r.2) := by
  intro n
  induction n with
  | zero =>
    intro i1 i2 i3 i4 i5 i7 i8 h hf
    rw [f_X12_two_l92] at hf
    cases hf
  | succ n ih =>
    intro i1 i2 i3 i4 i5 i7 i8 h hf
    rw [f_X12_two_l92] at hf
    refine ab_iload (pc2 := 94) dX12_two_92 rfl rfl ?_
    refine ab_iconst (pc2 := 95) (v := 2) dX12_two_94 rfl ab_k_iconst_2 ?_
    refine ab_icmp_ge (tgt := 204) (pc2 := 98) dX12_two_95 (by decide) rfl hf (fun c37 hf => ?_) (fun c37 hf => ?_)
    · refine ab_iinc (pc2 := 207) (v := _ + 1) (lo2 := [some (va_rf _), some (.int _), some (.int _), some (.int _), some (.int _), some (.int _), none, some (.int _), some (.int _), none]) dX12_two_204 rfl rfl rfl (by decide) rfl ?_
      refine ab_goto (tgt := 82) dX12_two_207 (by decide) ?_
      exact ab_weak (hk82 _ _ _ _ _ _ _ hf) (ab_leS (ab_leS (ab_leS (ab_leS (ab_leS (ab_leS (ab_leN (ab_leS (ab_leN (ab_leN ab_le0))))))))))
    · refine ab_iload (pc2 := 100) dX12_two_98 rfl rfl ?_
      refine ab_if_ne (tgt := 107) (pc2 := 103) dX12_two_100 (by decide) rfl hf (fun c38 hf => ?_) (fun c38 hf => ?_)
      · refine ab_iload_n (pc2 := 108) dX12_two_107 rfl rfl ?_
        refine ab_istore (pc2 := 110) (lo2 := [some (va_rf _), some (.int _), some (.int _), some (.int _), some (.int _), some (.int _), none, some (.int _), some (.int _), some (.int _)]) dX12_two_108 rfl (by decide) rfl ?_
        refine ab_iload (pc2 := 112) dX12_two_110 rfl rfl ?_
        refine ab_aload_n (x := _) (pc2 := 113) dX12_two_112 rfl rfl ?_
        refine ab_getR (pc2 := 116) rfl ht0 fa_X12_25 dX12_two_113 rfl (fun T39 => ?_)
        refine ab_iload (pc2 := 118) dX12_two_116 rfl rfl ?_
        obtain ⟨q40, hq40, hf⟩ := ab_bind hf
        obtain ⟨b41, hf⟩ := ab_guard hf
        refine ab_iald (pc2 := 119) hq40 (T39 q40 hq40) (ab_in_vp b41) dX12_two_118 rfl ?_
        refine ab_icmp_lt (tgt := 125) (pc2 := 122) dX12_two_119 (by decide) rfl hf (fun c42 hf => ?_) (fun c42 hf => ?_)
        · refine ab_aload_n (x := _) (pc2 := 126) dX12_two_125 rfl rfl ?_
          refine ab_getR (pc2 := 129) rfl ht0 fa_X12_40 dX12_two_126 rfl (fun T43 => ?_)
          refine ab_aload_n (x := _) (pc2 := 130) dX12_two_129 rfl rfl ?_
          refine ab_getI (pc2 := 133) rfl ht0 fa_X12_166 (by decide) dX12_two_130 rfl ?_
          refine ab_aload_n (x := _) (pc2 := 134) dX12_two_133 rfl rfl ?_
          refine ab_getR (pc2 := 137) rfl ht0 fa_X12_28 dX12_two_134 rfl (fun T44 => ?_)
          refine ab_bipush (pc2 := 139) (v := 100) dX12_two_137 rfl ab_k_bipush_100 ?_
          refine ab_iload (pc2 := 141) dX12_two_139 rfl rfl ?_
          refine ab_imul (pc2 := 142) dX12_two_141 rfl ?_
          refine ab_iload (pc2 := 144) dX12_two_142 rfl rfl ?_
          refine ab_iadd (pc2 := 145) dX12_two_144 rfl ?_
          obtain ⟨q45, hq45, hf⟩ := ab_bind hf
          obtain ⟨b46, hf⟩ := ab_guard hf
          refine ab_iald (pc2 := 146) hq45 (T44 q45 hq45) (ab_in_vp b46) dX12_two_145 rfl ?_
          obtain ⟨q47, hq47, hf⟩ := ab_bind hf
          obtain ⟨b48, hf⟩ := ab_guard hf
          have hf := ab_let_e hf
          refine ab_iast (pc2 := 147) hq47 (T43 q47 hq47) (ab_in_vp b48) dX12_two_146 rfl ?_
          refine ab_aload_n (x := _) (pc2 := 148) dX12_two_147 rfl rfl ?_
          refine ab_getR (pc2 := 151) rfl ht0 fa_X12_58 dX12_two_148 rfl (fun T50 => ?_)
          refine ab_aload_n (x := _) (pc2 := 152) dX12_two_151 rfl rfl ?_
          refine ab_getI (pc2 := 155) rfl ht0 fa_X12_166 (by decide) dX12_two_152 rfl ?_
          refine ab_iload (pc2 := 157) dX12_two_155 rfl rfl ?_
          obtain ⟨q51, hq51, hf⟩ := ab_bind hf
          obtain ⟨b52, hf⟩ := ab_guard hf
          have hf := ab_let_e hf
          refine ab_iast (pc2 := 158) hq51 (T50 q51 hq51) (ab_in_vp b52) dX12_two_157 rfl ?_
          refine ab_aload_n (x := _) (pc2 := 159) dX12_two_158 rfl rfl ?_
          refine ab_dup (pc2 := 160) dX12_two_159 rfl (ab_rf1 _) ?_
          refine ab_getI (pc2 := 163) rfl ht0 fa_X12_169 (by decide) dX12_two_160 rfl ?_
          refine ab_iload (pc2 := 165) dX12_two_163 rfl rfl ?_
          refine ab_if_ne (tgt := 172) (pc2 := 168) dX12_two_165 (by decide) rfl hf (fun c54 hf => ?_) (fun c54 hf => ?_)
          · refine ab_iload (pc2 := 174) dX12_two_172 rfl rfl ?_
            refine ab_iload (pc2 := 176) dX12_two_174 rfl rfl ?_
            refine ab_ishr (pc2 := 177) dX12_two_176 rfl ?_
            refine ab_iconst (pc2 := 178) (v := 1) dX12_two_177 rfl ab_k_iconst_1 ?_
            refine ab_iand (pc2 := 179) dX12_two_178 rfl ?_
            refine ab_aload_n (x := _) (pc2 := 180) dX12_two_179 rfl rfl ?_
            refine ab_getI (pc2 := 183) rfl ht0 fa_X12_166 (by decide) dX12_two_180 rfl ?_
            refine ab_ishl (pc2 := 184) dX12_two_183 rfl ?_
            refine ab_ior (pc2 := 185) dX12_two_184 rfl ?_
            have hf := ab_let_e hf
            refine ab_putI (pc2 := 188) rfl ht0 fa_X12_169 (Or.inl rfl) (fun z => by cases z) dX12_two_185 rfl ?_
            refine ab_aload_n (x := _) (pc2 := 189) dX12_two_188 rfl rfl ?_
            refine ab_dup (pc2 := 190) dX12_two_189 rfl (ab_rf1 _) ?_
            refine ab_getI (pc2 := 193) rfl ht0 fa_X12_166 (by decide) dX12_two_190 rfl ?_
            refine ab_iconst (pc2 := 194) (v := 1) dX12_two_193 rfl ab_k_iconst_1 ?_
            refine ab_iadd (pc2 := 195) dX12_two_194 rfl ?_
            have hf := ab_let_e hf
            refine ab_putI (pc2 := 198) rfl ht0 fa_X12_166 (Or.inl rfl) (fun z => by cases z) dX12_two_195 rfl ?_
            refine ab_iinc (pc2 := 201) (v := _ + 1) (lo2 := [some (va_rf _), some (.int _), some (.int _), some (.int _), some (.int _), some (.int _), none, some (.int _), some (.int _), some (.int _)]) dX12_two_198 rfl rfl rfl (by decide) rfl ?_
            refine ab_goto (tgt := 92) dX12_two_201 (by decide) ?_
            exact ab_weak (ih _ _ _ _ _ _ _ _ hf) (ab_leS (ab_leS (ab_leS (ab_leS (ab_leS (ab_leS (ab_leN (ab_leS (ab_leS (ab_leN ab_le0))))))))))
          · refine ab_iload_n (pc2 := 169) dX12_two_168 rfl rfl ?_
            refine ab_goto (tgt := 174) dX12_two_169 (by decide) ?_
            refine ab_iload (pc2 := 176) dX12_two_174 rfl rfl ?_
            refine ab_ishr (pc2 := 177) dX12_two_176 rfl ?_
            refine ab_iconst (pc2 := 178) (v := 1) dX12_two_177 rfl ab_k_iconst_1 ?_
            refine ab_iand (pc2 := 179) dX12_two_178 rfl ?_
            refine ab_aload_n (x := _) (pc2 := 180) dX12_two_179 rfl rfl ?_
            refine ab_getI (pc2 := 183) rfl ht0 fa_X12_166 (by decide) dX12_two_180 rfl ?_
            refine ab_ishl (pc2 := 184) dX12_two_183 rfl ?_
            refine ab_ior (pc2 := 185) dX12_two_184 rfl ?_
            have hf := ab_let_e hf
            refine ab_putI (pc2 := 188) rfl ht0 fa_X12_169 (Or.inl rfl) (fun z => by cases z) dX12_two_185 rfl ?_
            refine ab_aload_n (x := _) (pc2 := 189) dX12_two_188 rfl rfl ?_
            refine ab_dup (pc2 := 190) dX12_two_189 rfl (ab_rf1 _) ?_
            refine ab_getI (pc2 := 193) rfl ht0 fa_X12_166 (by decide) dX12_two_190 rfl ?_
            refine ab_iconst (pc2 := 194) (v := 1) dX12_two_193 rfl ab_k_iconst_1 ?_
            refine ab_iadd (pc2 := 195) dX12_two_194 rfl ?_
            have hf := ab_let_e hf
            refine ab_putI (pc2 := 198) rfl ht0 fa_X12_166 (Or.inl rfl) (fun z => by cases z) dX12_two_195 rfl ?_
            refine ab_iinc (pc2 := 201) (v := _ + 1) (lo2 := [some (va_rf _), some (.int _), some (.int _), some (.int _), some (.int _), some (.int _), none, some (.int _), some (.int _), some (.int _)]) dX12_two_198 rfl rfl rfl (by decide) rfl ?_
            refine ab_goto (tgt := 92) dX12_two_201 (by decide) ?_
            exact ab_weak (ih _ _ _ _ _ _ _ _ hf) (ab_leS (ab_leS (ab_leS (ab_leS (ab_leS (ab_leS (ab_leN (ab_leS (ab_leS (ab_leN ab_le0))))))))))
        · refine ab_goto (tgt := 198) dX12_two_122 (by decide) ?_
          refine ab_iinc (pc2 := 201) (v := _ + 1) (lo2 := [some (va_rf _), some (.int _), some (.int _), some (.int _), some (.int _), some (.int _), none, some (.int _), some (.int _), some (.int _)]) dX12_two_198 rfl rfl rfl (by decide) rfl ?_
          refine ab_goto (tgt := 92) dX12_two_201 (by decide) ?_
          exact ab_weak (ih _ _ _ _ _ _ _ _ hf) (ab_leS (ab_leS (ab_leS (ab_leS (ab_leS (ab_leS (ab_leN (ab_leS (ab_leS (ab_leN ab_le0))))))))))
      · refine ab_iload_n (pc2 := 104) dX12_two_103 rfl rfl ?_
        refine ab_goto (tgt := 108) dX12_two_104 (by decide) ?_
        refine ab_istore (pc2 := 110) (lo2 := [some (va_rf _), some (.int _), some (.int _), some (.int _), some (.int _), some (.int _), none, some (.int _), some (.int _), some (.int _)]) dX12_two_108 rfl (by decide) rfl ?_
        refine ab_iload (pc2 := 112) dX12_two_110 rfl rfl ?_
        refine ab_aload_n (x := _) (pc2 := 113) dX12_two_112 rfl rfl ?_
        refine ab_getR (pc2 := 116) rfl ht0 fa_X12_25 dX12_two_113 rfl (fun T59 => ?_)
        refine ab_iload (pc2 := 118) dX12_two_116 rfl rfl ?_
        obtain ⟨q60, hq60, hf⟩ := ab_bind hf
        obtain ⟨b61, hf⟩ := ab_guard hf
        refine ab_iald (pc2 := 119) hq60 (T59 q60 hq60) (ab_in_vp b61) dX12_two_118 rfl ?_
        refine ab_icmp_lt (tgt := 125) (pc2 := 122) dX12_two_119 (by decide) rfl hf (fun c62 hf => ?_) (fun c62 hf => ?_)
        · refine ab_aload_n (x := _) (pc2 := 126) dX12_two_125 rfl rfl ?_
          refine ab_getR (pc2 := 129) rfl ht0 fa_X12_40 dX12_two_126 rfl (fun T63 => ?_)
          refine ab_aload_n (x := _) (pc2 := 130) dX12_two_129 rfl rfl ?_
          refine ab_getI (pc2 := 133) rfl ht0 fa_X12_166 (by decide) dX12_two_130 rfl ?_
          refine ab_aload_n (x := _) (pc2 := 134) dX12_two_133 rfl rfl ?_
          refine ab_getR (pc2 := 137) rfl ht0 fa_X12_28 dX12_two_134 rfl (fun T64 => ?_)
          refine ab_bipush (pc2 := 139) (v := 100) dX12_two_137 rfl ab_k_bipush_100 ?_
          refine ab_iload (pc2 := 141) dX12_two_139 rfl rfl ?_
          refine ab_imul (pc2 := 142) dX12_two_141 rfl ?_
          refine ab_iload (pc2 := 144) dX12_two_142 rfl rfl ?_
          refine ab_iadd (pc2 := 145) dX12_two_144 rfl ?_
          obtain ⟨q65, hq65, hf⟩ := ab_bind hf
          obtain ⟨b66, hf⟩ := ab_guard hf
          refine ab_iald (pc2 := 146) hq65 (T64 q65 hq65) (ab_in_vp b66) dX12_two_145 rfl ?_
          obtain ⟨q67, hq67, hf⟩ := ab_bind hf
          obtain ⟨b68, hf⟩ := ab_guard hf
          have hf := ab_let_e hf
          refine ab_iast (pc2 := 147) hq67 (T63 q67 hq67) (ab_in_vp b68) dX12_two_146 rfl ?_
          refine ab_aload_n (x := _) (pc2 := 148) dX12_two_147 rfl rfl ?_
          refine ab_getR (pc2 := 151) rfl ht0 fa_X12_58 dX12_two_148 rfl (fun T70 => ?_)
          refine ab_aload_n (x := _) (pc2 := 152) dX12_two_151 rfl rfl ?_
          refine ab_getI (pc2 := 155) rfl ht0 fa_X12_166 (by decide) dX12_two_152 rfl ?_
          refine ab_iload (pc2 := 157) dX12_two_155 rfl rfl ?_
          obtain ⟨q71, hq71, hf⟩ := ab_bind hf
          obtain ⟨b72, hf⟩ := ab_guard hf
          have hf := ab_let_e hf
          refine ab_iast (pc2 := 158) hq71 (T70 q71 hq71) (ab_in_vp b72) dX12_two_157 rfl ?_
          refine ab_aload_n (x := _) (pc2 := 159) dX12_two_158 rfl rfl ?_
          refine ab_dup (pc2 := 160) dX12_two_159 rfl (ab_rf1 _) ?_
          refine ab_getI (pc2 := 163) rfl ht0 fa_X12_169 (by decide) dX12_two_160 rfl ?_
          refine ab_iload (pc2 := 165) dX12_two_163 rfl rfl ?_
          refine ab_if_ne (tgt := 172) (pc2 := 168) dX12_two_165 (by decide) rfl hf (fun c74 hf => ?_) (fun c74 hf => ?_)
          · refine ab_iload (pc2 := 174) dX12_two_172 rfl rfl ?_
            refine ab_iload (pc2 := 176) dX12_two_174 rfl rfl ?_
            refine ab_ishr (pc2 := 177) dX12_two_176 rfl ?_
            refine ab_iconst (pc2 := 178) (v := 1) dX12_two_177 rfl ab_k_iconst_1 ?_
            refine ab_iand (pc2 := 179) dX12_two_178 rfl ?_
            refine ab_aload_n (x := _) (pc2 := 180) dX12_two_179 rfl rfl ?_
            refine ab_getI (pc2 := 183) rfl ht0 fa_X12_166 (by decide) dX12_two_180 rfl ?_
            refine ab_ishl (pc2 := 184) dX12_two_183 rfl ?_
            refine ab_ior (pc2 := 185) dX12_two_184 rfl ?_
            have hf := ab_let_e hf
            refine ab_putI (pc2 := 188) rfl ht0 fa_X12_169 (Or.inl rfl) (fun z => by cases z) dX12_two_185 rfl ?_
            refine ab_aload_n (x := _) (pc2 := 189) dX12_two_188 rfl rfl ?_
            refine ab_dup (pc2 := 190) dX12_two_189 rfl (ab_rf1 _) ?_
            refine ab_getI (pc2 := 193) rfl ht0 fa_X12_166 (by decide) dX12_two_190 rfl ?_
            refine ab_iconst (pc2 := 194) (v := 1) dX12_two_193 rfl ab_k_iconst_1 ?_
            refine ab_iadd (pc2 := 195) dX12_two_194 rfl ?_
            have hf := ab_let_e hf
            refine ab_putI (pc2 := 198) rfl ht0 fa_X12_166 (Or.inl rfl) (fun z => by cases z) dX12_two_195 rfl ?_
            refine ab_iinc (pc2 := 201) (v := _ + 1) (lo2 := [some (va_rf _), some (.int _), some (.int _), some (.int _), some (.int _), some (.int _), none, some (.int _), some (.int _), some (.int _)]) dX12_two_198 rfl rfl rfl (by decide) rfl ?_
            refine ab_goto (tgt := 92) dX12_two_201 (by decide) ?_
            exact ab_weak (ih _ _ _ _ _ _ _ _ hf) (ab_leS (ab_leS (ab_leS (ab_leS (ab_leS (ab_leS (ab_leN (ab_leS (ab_leS (ab_leN ab_le0))))))))))
          · refine ab_iload_n (pc2 := 169) dX12_two_168 rfl rfl ?_
            refine ab_goto (tgt := 174) dX12_two_169 (by decide) ?_
            refine ab_iload (pc2 := 176) dX12_two_174 rfl rfl ?_
            refine ab_ishr (pc2 := 177) dX12_two_176 rfl ?_
            refine ab_iconst (pc2 := 178) (v := 1) dX12_two_177 rfl ab_k_iconst_1 ?_
            refine ab_iand (pc2 := 179) dX12_two_178 rfl ?_
            refine ab_aload_n (x := _) (pc2 := 180) dX12_two_179 rfl rfl ?_
            refine ab_getI (pc2 := 183) rfl ht0 fa_X12_166 (by decide) dX12_two_180 rfl ?_
            refine ab_ishl (pc2 := 184) dX12_two_183 rfl ?_
            refine ab_ior (pc2 := 185) dX12_two_184 rfl ?_
            have hf := ab_let_e hf
            refine ab_putI (pc2 := 188) rfl ht0 fa_X12_169 (Or.inl rfl) (fun z => by cases z) dX12_two_185 rfl ?_
            refine ab_aload_n (x := _) (pc2 := 189) dX12_two_188 rfl rfl ?_
            refine ab_dup (pc2 := 190) dX12_two_189 rfl (ab_rf1 _) ?_
            refine ab_getI (pc2 := 193) rfl ht0 fa_X12_166 (by decide) dX12_two_190 rfl ?_
            refine ab_iconst (pc2 := 194) (v := 1) dX12_two_193 rfl ab_k_iconst_1 ?_
            refine ab_iadd (pc2 := 195) dX12_two_194 rfl ?_
            have hf := ab_let_e hf
            refine ab_putI (pc2 := 198) rfl ht0 fa_X12_166 (Or.inl rfl) (fun z => by cases z) dX12_two_195 rfl ?_
            refine ab_iinc (pc2 := 201) (v := _ + 1) (lo2 := [some (va_rf _), some (.int _), some (.int _), some (.int _), some (.int _), some (.int _), none, some (.int _), some (.int _), some (.int _)]) dX12_two_198 rfl rfl rfl (by decide) rfl ?_
            refine ab_goto (tgt := 92) dX12_two_201 (by decide) ?_
            exact ab_weak (ih _ _ _ _ _ _ _ _ hf) (ab_leS (ab_leS (ab_leS (ab_leS (ab_leS (ab_leS (ab_leN (ab_leS (ab_leS (ab_leN ab_le0))))))))))
        · refine ab_goto (tgt := 198) dX12_two_122 (by decide) ?_
          refine ab_iinc (pc2 := 201) (v := _ + 1) (lo2 := [some (va_rf _), some (.int _), some (.int _), some (.int _), some (.int _), some (.int _), none, some (.int _), some (.int _), some (.int _)]) dX12_two_198 rfl rfl rfl (by decide) rfl ?_
          refine ab_goto (tgt := 92) dX12_two_201 (by decide) ?_
          exact ab_weak (ih _ _ _ _ _ _ _ _ hf) (ab_leS (ab_leS (ab_leS (ab_leS (ab_leS (ab_leS (ab_leN (ab_leS (ab_leS (ab_leN ab_le0))))))))))
set_option maxHeartbeats 4000000 in
set_option maxRecDepth 100000 in
theorem x_X12_two_l82 {d : Nat} {t0 : Nat} {r : (Int32 × ab_HP)} (ht0 : (ab_shp t0).1 = 5) : ∀ (n : Nat) (i1 : Int32) (i2 : Int32) (i3 : Int32) (i4 : Int32) (i5 : Int32) (i7 : Int32) (h : ab_HP), f_X12_two_l82 t0 n i1 i2 i3 i4 i5 i7 h = some r → ab_T mX12_two (d + 7) 0 0 0 0 82 [some (va_rf (some t0)), some (.int i1), some (.int i2), some (.int i3), some (.int i4), some (.int i5), none, some (.int i7), none, none] [] h (ab_Pi r.1 r.2) := by
  intro n
  induction n with
  | zero =>
    intro i1 i2 i3 i4 i5 i7 h hf
    rw [f_X12_two_l82] at hf
    cases hf
  | succ n ih =>
    intro i1 i2 i3 i4 i5 i7 h hf
    rw [f_X12_two_l82] at hf
    refine ab_iload (pc2 := 84) dX12_two_82 rfl rfl ?_
    refine ab_bipush (pc2 := 86) (v := 8) dX12_two_84 rfl ab_k_bipush_8 ?_
    refine ab_icmp_ge (tgt := 210) (pc2 := 89) dX12_two_86 (by decide) rfl hf (fun c22 hf => ?_) (fun c22 hf => ?_)
    · refine ab_aload_n (x := _) (pc2 := 211) dX12_two_210 rfl rfl ?_
      obtain ⟨w23, ew23, hf⟩ := ab_bind hf
      refine ab_callV (pc2 := 214) (st := []) rfl ht0 (by decide) (m_X12_begins (d := (d + 6)) ht0 ew23) mf_X12_begins tw_206 tw_205 ts_X12_begins (Or.inl (by decide +kernel)) dX12_two_211 rfl (by omega) (Nat.le_refl _) (Nat.le_refl _) rfl (Nat.le_of_ble_eq_true rfl) (fun v u hp => ?_)
      obtain ⟨rfl, rfl⟩ := hp
      show ab_T _ _ _ _ 0 0 214 _ ([]) _ _
      refine ab_aload_n (x := _) (pc2 := 215) dX12_two_214 rfl rfl ?_
      obtain ⟨w24, ew24, hf⟩ := ab_bind hf
      refine ab_callV (pc2 := 218) (st := []) rfl ht0 (by decide) (m_X12_pairOf (d := (d + 0)) ht0 ew24) mf_X12_pairOf tw_230 tw_229 ts_X12_pairOf (Or.inl (by decide +kernel)) dX12_two_215 rfl (by omega) (Nat.le_refl _) (Nat.le_refl _) rfl (Nat.le_of_ble_eq_true rfl) (fun v u hp => ?_)
      obtain ⟨rfl, rfl⟩ := hp
      show ab_T _ _ _ _ 0 0 218 _ ([]) _ _
      refine ab_iconst (pc2 := 219) (v := 0) dX12_two_218 rfl ab_k_iconst_0 ?_
      refine ab_istore (pc2 := 221) (lo2 := [some (va_rf _), some (.int _), some (.int _), some (.int _), some (.int _), some (.int _), none, some (.int _), none, none]) dX12_two_219 rfl (by decide) rfl ?_
      refine ab_iconst (pc2 := 222) (v := 0) dX12_two_221 rfl ab_k_iconst_0 ?_
      refine ab_istore (pc2 := 224) (lo2 := [some (va_rf _), some (.int _), some (.int _), some (.int _), some (.int _), some (.int _), none, some (.int _), some (.int _), none]) dX12_two_222 rfl (by decide) rfl ?_
      exact ab_weak (x_X12_two_l224 ht0 _ _ _ _ _ hf) (ab_leS (ab_leN (ab_leN (ab_leN (ab_leN (ab_leS (ab_leN (ab_leS (ab_leS (ab_leN ab_le0))))))))))
    · refine ab_iconst (pc2 := 90) (v := 0) dX12_two_89 rfl ab_k_iconst_0 ?_
      refine ab_istore (pc2 := 92) (lo2 := [some (va_rf _), some (.int _), some (.int _), some (.int _), some (.int _), some (.int _), none, some (.int _), some (.int _), none]) dX12_two_90 rfl (by decide) rfl ?_
      exact ab_weak (x_X12_two_l92 ht0 ih _ _ _ _ _ _ _ _ _ hf) (ab_leS (ab_leS (ab_leS (ab_leS (ab_leS (ab_leS (ab_leN (ab_leS (ab_leS (ab_leN ab_le0))))))))))
set_option maxHeartbeats 4000000 in
set_option maxRecDepth 100000 in
theorem x_X12_two_b61 {d : Nat} {t0 : Nat} {i1 : Int32} {i2 : Int32} {i3 : Int32} {i4 : Int32} {i5 : Int32} {i6 : Int32} {h : ab_HP} {r : (Int32 × ab_HP)} (ht0 : (ab_shp t0).1 = 5) (hf : f_X12_two_b61 t0 i1 i2 i3 i4 i5 i6 h = some r) : ab_T mX12_two (d + 7) 0 0 0 0 61 [some (va_rf (some t0)), some (.int i1), some (.int i2), some (.int i3), some (.int i4), some (.int i5), some (.int i6), none, none, none] [] h (ab_Pi r.1 r.2) := by
  unfold f_X12_two_b61 at hf
  refine ab_iload (pc2 := 63) dX12_two_61 rfl rfl ?_
  refine ab_if_eq (tgt := 69) (pc2 := 66) dX12_two_63 (by decide) rfl hf (fun c19 hf => ?_) (fun c19 hf => ?_)
  · refine ab_aload_n (x := _) (pc2 := 70) dX12_two_69 rfl rfl ?_
    refine ab_iconst (pc2 := 71) (v := 0) dX12_two_70 rfl ab_k_iconst_0 ?_
    have hf := ab_let_e hf
    refine ab_putI (pc2 := 74) rfl ht0 fa_X12_166 (Or.inl rfl) (fun z => by cases z) dX12_two_71 rfl ?_
    refine ab_aload_n (x := _) (pc2 := 75) dX12_two_74 rfl rfl ?_
    refine ab_iconst (pc2 := 76) (v := 0) dX12_two_75 rfl ab_k_iconst_0 ?_
    have hf := ab_let_e hf
    refine ab_putI (pc2 := 79) rfl ht0 fa_X12_169 (Or.inl rfl) (fun z => by cases z) dX12_two_76 rfl ?_
    refine ab_iconst (pc2 := 80) (v := 0) dX12_two_79 rfl ab_k_iconst_0 ?_
    refine ab_istore (pc2 := 82) (lo2 := [some (va_rf _), some (.int _), some (.int _), some (.int _), some (.int _), some (.int _), some (.int _), some (.int _), none, none]) dX12_two_80 rfl (by decide) rfl ?_
    exact ab_weak (x_X12_two_l82 ht0 _ _ _ _ _ _ _ _ hf) (ab_leS (ab_leS (ab_leS (ab_leS (ab_leS (ab_leS (ab_leN (ab_leS (ab_leN (ab_leN ab_le0))))))))))
  · refine ab_iload (pc2 := 68) dX12_two_66 rfl rfl ?_
    cases Option.some.inj hf
    exact ab_retI dX12_two_68 (Or.inl rfl) (Nat.le_refl _) (Nat.le_refl _) ⟨rfl, rfl⟩
set_option maxHeartbeats 4000000 in
set_option maxRecDepth 100000 in
theorem x_X12_two {d : Nat} {t0 : Nat} {i1 : Int32} {i2 : Int32} {i3 : Int32} {i4 : Int32} {i5 : Int32} {h : ab_HP} {r : (Int32 × ab_HP)} (ht0 : (ab_shp t0).1 = 5) (hf : f_X12_two t0 i1 i2 i3 i4 i5 h = some r) : ab_T mX12_two (d + 7) 0 0 0 0 0 [some (va_rf (some t0)), some (.int i1), some (.int i2), some (.int i3), some (.int i4), some (.int i5), none, none, none, none] [] h (ab_Pi r.1 r.2) := by
  unfold f_X12_two at hf
  refine ab_iload_n (pc2 := 1) dX12_two_0 rfl rfl ?_
  obtain ⟨w1, ew1, hf⟩ := ab_bind hf
  refine ab_callS (pc2 := 4) (st := []) (m_X12_isShelf (d := (d + 5)) ew1) mf_X12_isShelf tw_103 tw_104 dX12_two_1 rfl (by omega) (Nat.le_refl _) (Nat.le_refl _) rfl (Nat.le_of_ble_eq_true rfl) (fun v u hp => ?_)
  obtain ⟨rfl, rfl, z2⟩ := hp
  show ab_T _ _ _ _ 0 0 4 _ (.int _ :: []) _ _
  refine ab_if_eq (tgt := 40) (pc2 := 7) dX12_two_4 (by decide) rfl hf (fun c3 hf => ?_) (fun c3 hf => ?_)
  · refine ab_iconst (pc2 := 41) (v := (-1)) dX12_two_40 rfl ab_k_iconst_m1 ?_
    cases Option.some.inj hf
    exact ab_retI dX12_two_41 (Or.inl rfl) (Nat.le_refl _) (Nat.le_refl _) ⟨rfl, rfl⟩
  · refine ab_iload_n (pc2 := 8) dX12_two_7 rfl rfl ?_
    obtain ⟨w4, ew4, hf⟩ := ab_bind hf
    refine ab_callS (pc2 := 11) (st := []) (m_X12_isShelf (d := (d + 5)) ew4) mf_X12_isShelf tw_103 tw_104 dX12_two_8 rfl (by omega) (Nat.le_refl _) (Nat.le_refl _) rfl (Nat.le_of_ble_eq_true rfl) (fun v u hp => ?_)
    obtain ⟨rfl, rfl, z5⟩ := hp
    show ab_T _ _ _ _ 0 0 11 _ (.int _ :: []) _ _
    refine ab_if_eq (tgt := 40) (pc2 := 14) dX12_two_11 (by decide) rfl hf (fun c6 hf => ?_) (fun c6 hf => ?_)
    · refine ab_iconst (pc2 := 41) (v := (-1)) dX12_two_40 rfl ab_k_iconst_m1 ?_
      cases Option.some.inj hf
      exact ab_retI dX12_two_41 (Or.inl rfl) (Nat.le_refl _) (Nat.le_refl _) ⟨rfl, rfl⟩
    · refine ab_iload_n (pc2 := 15) dX12_two_14 rfl rfl ?_
      obtain ⟨w7, ew7, hf⟩ := ab_bind hf
      refine ab_callS (pc2 := 18) (st := []) (m_X12_areNails (d := (d + 5)) ew7) mf_X12_areNails tw_223 tw_224 dX12_two_15 rfl (by omega) (Nat.le_refl _) (Nat.le_refl _) rfl (Nat.le_of_ble_eq_true rfl) (fun v u hp => ?_)
      obtain ⟨rfl, rfl, z8⟩ := hp
      show ab_T _ _ _ _ 0 0 18 _ (.int _ :: []) _ _
      refine ab_if_eq (tgt := 40) (pc2 := 21) dX12_two_18 (by decide) rfl hf (fun c9 hf => ?_) (fun c9 hf => ?_)
      · refine ab_iconst (pc2 := 41) (v := (-1)) dX12_two_40 rfl ab_k_iconst_m1 ?_
        cases Option.some.inj hf
        exact ab_retI dX12_two_41 (Or.inl rfl) (Nat.le_refl _) (Nat.le_refl _) ⟨rfl, rfl⟩
      · refine ab_iload (pc2 := 23) dX12_two_21 rfl rfl ?_
        obtain ⟨w10, ew10, hf⟩ := ab_bind hf
        refine ab_callS (pc2 := 26) (st := []) (m_X12_areNails (d := (d + 5)) ew10) mf_X12_areNails tw_223 tw_224 dX12_two_23 rfl (by omega) (Nat.le_refl _) (Nat.le_refl _) rfl (Nat.le_of_ble_eq_true rfl) (fun v u hp => ?_)
        obtain ⟨rfl, rfl, z11⟩ := hp
        show ab_T _ _ _ _ 0 0 26 _ (.int _ :: []) _ _
        refine ab_if_eq (tgt := 40) (pc2 := 29) dX12_two_26 (by decide) rfl hf (fun c12 hf => ?_) (fun c12 hf => ?_)
        · refine ab_iconst (pc2 := 41) (v := (-1)) dX12_two_40 rfl ab_k_iconst_m1 ?_
          cases Option.some.inj hf
          exact ab_retI dX12_two_41 (Or.inl rfl) (Nat.le_refl _) (Nat.le_refl _) ⟨rfl, rfl⟩
        · refine ab_iload (pc2 := 31) dX12_two_29 rfl rfl ?_
          refine ab_i2l (pc2 := 32) dX12_two_31 rfl ?_
          refine ab_lconst (pc2 := 33) (v := 0) dX12_two_32 rfl rfl ?_
          refine ab_lconst (pc2 := 34) (v := 1) dX12_two_33 rfl rfl ?_
          obtain ⟨w13, ew13, hf⟩ := ab_bind hf
          refine ab_callS (pc2 := 37) (st := []) (m_X12_isIn (d := (d + 6)) ew13) mf_X12_isIn tw_101 tw_102 dX12_two_34 rfl (by omega) (Nat.le_refl _) (Nat.le_refl _) rfl (Nat.le_of_ble_eq_true rfl) (fun v u hp => ?_)
          obtain ⟨rfl, rfl, z14⟩ := hp
          show ab_T _ _ _ _ 0 0 37 _ (.int _ :: []) _ _
          refine ab_if_ne (tgt := 42) (pc2 := 40) dX12_two_37 (by decide) rfl hf (fun c15 hf => ?_) (fun c15 hf => ?_)
          · refine ab_aload_n (x := _) (pc2 := 43) dX12_two_42 rfl rfl ?_
            refine ab_iload_n (pc2 := 44) dX12_two_43 rfl rfl ?_
            obtain ⟨w16, ew16, hf⟩ := ab_bind hf
            refine ab_callV (pc2 := 47) (st := []) rfl ht0 (by decide) (m_X12_wrongList (d := (d + 3)) ht0 ew16) mf_X12_wrongList tw_226 tw_225 ts_X12_wrongList (Or.inl (by decide +kernel)) dX12_two_44 rfl (by omega) (Nat.le_refl _) (Nat.le_refl _) rfl (Nat.le_of_ble_eq_true rfl) (fun v u hp => ?_)
            obtain ⟨rfl, rfl⟩ := hp
            show ab_T _ _ _ _ 0 0 47 _ (.int _ :: []) _ _
            refine ab_istore (pc2 := 49) (lo2 := [some (va_rf _), some (.int _), some (.int _), some (.int _), some (.int _), some (.int _), some (.int _), none, none, none]) dX12_two_47 rfl (by decide) rfl ?_
            refine ab_iload (pc2 := 51) dX12_two_49 rfl rfl ?_
            refine ab_if_ne (tgt := 61) (pc2 := 54) dX12_two_51 (by decide) rfl hf (fun c17 hf => ?_) (fun c17 hf => ?_)
            · exact ab_weak (x_X12_two_b61 ht0 hf) (ab_leS (ab_leS (ab_leS (ab_leS (ab_leS (ab_leS (ab_leS (ab_leN (ab_leN (ab_leN ab_le0))))))))))
            · refine ab_aload_n (x := _) (pc2 := 55) dX12_two_54 rfl rfl ?_
              refine ab_iload_n (pc2 := 56) dX12_two_55 rfl rfl ?_
              obtain ⟨w18, ew18, hf⟩ := ab_bind hf
              refine ab_callV (pc2 := 59) (st := []) rfl ht0 (by decide) (m_X12_wrongList (d := (d + 3)) ht0 ew18) mf_X12_wrongList tw_226 tw_225 ts_X12_wrongList (Or.inl (by decide +kernel)) dX12_two_56 rfl (by omega) (Nat.le_refl _) (Nat.le_refl _) rfl (Nat.le_of_ble_eq_true rfl) (fun v u hp => ?_)
              obtain ⟨rfl, rfl⟩ := hp
              show ab_T _ _ _ _ 0 0 59 _ (.int _ :: []) _ _
              refine ab_istore (pc2 := 61) (lo2 := [some (va_rf _), some (.int _), some (.int _), some (.int _), some (.int _), some (.int _), some (.int _), none, none, none]) dX12_two_59 rfl (by decide) rfl ?_
              exact ab_weak (x_X12_two_b61 ht0 hf) (ab_leS (ab_leS (ab_leS (ab_leS (ab_leS (ab_leS (ab_leS (ab_leN (ab_leN (ab_leN ab_le0))))))))))
          · refine ab_iconst (pc2 := 41) (v := (-1)) dX12_two_40 rfl ab_k_iconst_m1 ?_
            cases Option.some.inj hf
            exact ab_retI dX12_two_41 (Or.inl rfl) (Nat.le_refl _) (Nat.le_refl _) ⟨rfl, rfl⟩
set_option maxHeartbeats 4000000 in
set_option maxRecDepth 100000 in
theorem m_X12_two {d : Nat} {t0 : Nat} {i1 : Int32} {i2 : Int32} {i3 : Int32} {i4 : Int32} {i5 : Int32} {h : ab_HP} {r : (Int32 × ab_HP)} (ht0 : (ab_shp t0).1 = 5) (hf : f_X12_two t0 i1 i2 i3 i4 i5 h = some r) : ab_MET mX12_two (d + 7) 0 0 [va_rf (some t0), .int i1, .int i2, .int i3, .int i4, .int i5] h (ab_Pi r.1 r.2) := ab_met (by decide +kernel) (by decide +kernel) (Nat.le_of_ble_eq_true rfl) rfl (x_X12_two ht0 hf)
set_option maxHeartbeats 4000000 in
set_option maxRecDepth 100000 in
theorem x_X12_month_l4 {d : Nat} {t0 : Nat} {r : Int32} (ht0 : (ab_shp t0).1 = 5) : ∀ (n : Nat) (i1 : Int32) (i2 : Int32) (h : ab_HP), f_X12_month_l4 t0 n i1 i2 h = some r → ab_T mX12_month (d + 1) 0 0 0 0 4 [some (va_rf (some t0)), some (.int i1), some (.int i2)] [] h (ab_Pi r h) := by
  intro n
  induction n with
  | zero =>
    intro i1 i2 h hf
    rw [f_X12_month_l4] at hf
    cases hf
  | succ n ih =>
    intro i1 i2 h hf
    rw [f_X12_month_l4] at hf
    refine ab_iload_n (pc2 := 5) dX12_month_4 rfl rfl ?_
    refine ab_bipush (pc2 := 7) (v := 8) dX12_month_5 rfl ab_k_bipush_8 ?_
    refine ab_icmp_ge (tgt := 35) (pc2 := 10) dX12_month_7 (by decide) rfl hf (fun c1 hf => ?_) (fun c1 hf => ?_)
    · refine ab_iload_n (pc2 := 36) dX12_month_35 rfl rfl ?_
      cases Option.some.inj hf
      exact ab_retI dX12_month_36 (Or.inl rfl) (Nat.le_refl _) (Nat.le_refl _) ⟨rfl, rfl⟩
    · refine ab_aload_n (x := _) (pc2 := 11) dX12_month_10 rfl rfl ?_
      refine ab_iload_n (pc2 := 12) dX12_month_11 rfl rfl ?_
      obtain ⟨w2, ew2, hf⟩ := ab_bind hf
      refine ab_callV (pc2 := 15) (st := []) rfl ht0 (by decide) (m_X12_priceOf (d := (d + 0)) ht0 ew2) mf_X12_priceOf tw_210 tw_209 ts_X12_priceOf (Or.inl (by decide +kernel)) dX12_month_12 rfl (by omega) (Nat.le_refl _) (Nat.le_refl _) rfl (Nat.le_of_ble_eq_true rfl) (fun v u hp => ?_)
      obtain ⟨rfl, rfl⟩ := hp
      show ab_T _ _ _ _ 0 0 15 _ (.int _ :: []) _ _
      refine ab_aload_n (x := _) (pc2 := 16) dX12_month_15 rfl rfl ?_
      refine ab_iload_n (pc2 := 17) dX12_month_16 rfl rfl ?_
      obtain ⟨w3, ew3, hf⟩ := ab_bind hf
      refine ab_callV (pc2 := 20) (st := [_]) rfl ht0 (by decide) (m_X12_priceOf (d := (d + 0)) ht0 ew3) mf_X12_priceOf tw_210 tw_209 ts_X12_priceOf (Or.inl (by decide +kernel)) dX12_month_17 rfl (by omega) (Nat.le_refl _) (Nat.le_refl _) rfl (Nat.le_of_ble_eq_true rfl) (fun v u hp => ?_)
      obtain ⟨rfl, rfl⟩ := hp
      show ab_T _ _ _ _ 0 0 20 _ (.int _ :: [_]) _ _
      refine ab_icmp_ge (tgt := 27) (pc2 := 23) dX12_month_20 (by decide) rfl hf (fun c4 hf => ?_) (fun c4 hf => ?_)
      · refine ab_iload_n (pc2 := 28) dX12_month_27 rfl rfl ?_
        refine ab_istore_n (pc2 := 29) (lo2 := [some (va_rf _), some (.int _), some (.int _)]) dX12_month_28 rfl (by decide) rfl ?_
        refine ab_iinc (pc2 := 32) (v := _ + 1) (lo2 := [some (va_rf _), some (.int _), some (.int _)]) dX12_month_29 rfl rfl rfl (by decide) rfl ?_
        refine ab_goto (tgt := 4) dX12_month_32 (by decide) ?_
        exact ab_weak (ih _ _ _ hf) (ab_leS (ab_leS (ab_leS ab_le0)))
      · refine ab_iload_n (pc2 := 24) dX12_month_23 rfl rfl ?_
        refine ab_goto (tgt := 28) dX12_month_24 (by decide) ?_
        refine ab_istore_n (pc2 := 29) (lo2 := [some (va_rf _), some (.int _), some (.int _)]) dX12_month_28 rfl (by decide) rfl ?_
        refine ab_iinc (pc2 := 32) (v := _ + 1) (lo2 := [some (va_rf _), some (.int _), some (.int _)]) dX12_month_29 rfl rfl rfl (by decide) rfl ?_
        refine ab_goto (tgt := 4) dX12_month_32 (by decide) ?_
        exact ab_weak (ih _ _ _ hf) (ab_leS (ab_leS (ab_leS ab_le0)))
set_option maxHeartbeats 4000000 in
set_option maxRecDepth 100000 in
theorem x_X12_month {d : Nat} {t0 : Nat} {h : ab_HP} {r : Int32} (ht0 : (ab_shp t0).1 = 5) (hf : f_X12_month t0 h = some r) : ab_T mX12_month (d + 1) 0 0 0 0 0 [some (va_rf (some t0)), none, none] [] h (ab_Pi r h) := by
  unfold f_X12_month at hf
  refine ab_iconst (pc2 := 1) (v := 0) dX12_month_0 rfl ab_k_iconst_0 ?_
  refine ab_istore_n (pc2 := 2) (lo2 := [some (va_rf _), some (.int _), none]) dX12_month_1 rfl (by decide) rfl ?_
  refine ab_iconst (pc2 := 3) (v := 1) dX12_month_2 rfl ab_k_iconst_1 ?_
  refine ab_istore_n (pc2 := 4) (lo2 := [some (va_rf _), some (.int _), some (.int _)]) dX12_month_3 rfl (by decide) rfl ?_
  exact ab_weak (x_X12_month_l4 ht0 _ _ _ _ hf) (ab_leS (ab_leS (ab_leS ab_le0)))
set_option maxHeartbeats 4000000 in
set_option maxRecDepth 100000 in
theorem m_X12_month {d : Nat} {t0 : Nat} {h : ab_HP} {r : Int32} (ht0 : (ab_shp t0).1 = 5) (hf : f_X12_month t0 h = some r) : ab_MET mX12_month (d + 1) 0 0 [va_rf (some t0)] h (ab_Pi r h) := ab_met (by decide +kernel) (by decide +kernel) (Nat.le_of_ble_eq_true rfl) rfl (x_X12_month ht0 hf)
set_option maxHeartbeats 4000000 in
set_option maxRecDepth 100000 in
theorem x_X12_nail {d : Nat} {t0 : Nat} {i1 : Int32} {h : ab_HP} {r : Int32} (ht0 : (ab_shp t0).1 = 5) (hf : f_X12_nail t0 i1 h = some r) : ab_T mX12_nail (d + 1) 0 0 0 0 0 [some (va_rf (some t0)), some (.int i1)] [] h (ab_Pi r h) := by
  unfold f_X12_nail at hf
  refine ab_iload_n (pc2 := 1) dX12_nail_0 rfl rfl ?_
  refine ab_i2l (pc2 := 2) dX12_nail_1 rfl ?_
  refine ab_lconst (pc2 := 3) (v := 0) dX12_nail_2 rfl rfl ?_
  refine ab_ldc2 (pc2 := 6) (v := 7) dX12_nail_3 rfl tw_100 ?_
  obtain ⟨w1, ew1, hf⟩ := ab_bind hf
  refine ab_callS (pc2 := 9) (st := []) (m_X12_isIn (d := (d + 0)) ew1) mf_X12_isIn tw_101 tw_102 dX12_nail_6 rfl (by omega) (Nat.le_refl _) (Nat.le_refl _) rfl (Nat.le_of_ble_eq_true rfl) (fun v u hp => ?_)
  obtain ⟨rfl, rfl, z2⟩ := hp
  show ab_T _ _ _ _ 0 0 9 _ (.int _ :: []) _ _
  refine ab_if_eq (tgt := 20) (pc2 := 12) dX12_nail_9 (by decide) rfl hf (fun c3 hf => ?_) (fun c3 hf => ?_)
  · refine ab_iconst (pc2 := 21) (v := (-1)) dX12_nail_20 rfl ab_k_iconst_m1 ?_
    cases Option.some.inj hf
    exact ab_retI dX12_nail_21 (Or.inl rfl) (Nat.le_refl _) (Nat.le_refl _) ⟨rfl, rfl⟩
  · refine ab_aload_n (x := _) (pc2 := 13) dX12_nail_12 rfl rfl ?_
    refine ab_iload_n (pc2 := 14) dX12_nail_13 rfl rfl ?_
    obtain ⟨w4, ew4, hf⟩ := ab_bind hf
    refine ab_callV (pc2 := 17) (st := []) rfl ht0 (by decide) (m_X12_priceOf (d := (d + 0)) ht0 ew4) mf_X12_priceOf tw_210 tw_209 ts_X12_priceOf (Or.inl (by decide +kernel)) dX12_nail_14 rfl (by omega) (Nat.le_refl _) (Nat.le_refl _) rfl (Nat.le_of_ble_eq_true rfl) (fun v u hp => ?_)
    obtain ⟨rfl, rfl⟩ := hp
    show ab_T _ _ _ _ 0 0 17 _ (.int _ :: []) _ _
    refine ab_goto (tgt := 21) dX12_nail_17 (by decide) ?_
    cases Option.some.inj hf
    exact ab_retI dX12_nail_21 (Or.inl rfl) (Nat.le_refl _) (Nat.le_refl _) ⟨rfl, rfl⟩
set_option maxHeartbeats 4000000 in
set_option maxRecDepth 100000 in
theorem m_X12_nail {d : Nat} {t0 : Nat} {i1 : Int32} {h : ab_HP} {r : Int32} (ht0 : (ab_shp t0).1 = 5) (hf : f_X12_nail t0 i1 h = some r) : ab_MET mX12_nail (d + 1) 0 0 [va_rf (some t0), .int i1] h (ab_Pi r h) := ab_met (by decide +kernel) (by decide +kernel) (Nat.le_of_ble_eq_true rfl) rfl (x_X12_nail ht0 hf)
set_option maxHeartbeats 4000000 in
set_option maxRecDepth 100000 in
theorem x_X12_byLaw {d : Nat} {t0 : Nat} {i1 : Int32} {i2 : Int32} {i3 : Int32} {h : ab_HP} {r : (Int32 × ab_HP)} (ht0 : (ab_shp t0).1 = 5) (hf : f_X12_byLaw t0 i1 i2 i3 h = some r) : ab_T mX12_byLaw (d + 7) 0 0 0 0 0 [some (va_rf (some t0)), some (.int i1), some (.int i2), some (.int i3), none, none] [] h (ab_Pi r.1 r.2) := by
  unfold f_X12_byLaw at hf
  refine ab_iload_n (pc2 := 1) dX12_byLaw_0 rfl rfl ?_
  refine ab_i2l (pc2 := 2) dX12_byLaw_1 rfl ?_
  refine ab_lconst (pc2 := 3) (v := 0) dX12_byLaw_2 rfl rfl ?_
  refine ab_ldc2 (pc2 := 6) (v := 2) dX12_byLaw_3 rfl tw_143 ?_
  obtain ⟨w1, ew1, hf⟩ := ab_bind hf
  refine ab_callS (pc2 := 9) (st := []) (m_X12_isIn (d := (d + 6)) ew1) mf_X12_isIn tw_101 tw_102 dX12_byLaw_6 rfl (by omega) (Nat.le_refl _) (Nat.le_refl _) rfl (Nat.le_of_ble_eq_true rfl) (fun v u hp => ?_)
  obtain ⟨rfl, rfl, z2⟩ := hp
  show ab_T _ _ _ _ 0 0 9 _ (.int _ :: []) _ _
  refine ab_if_eq (tgt := 26) (pc2 := 12) dX12_byLaw_9 (by decide) rfl hf (fun c3 hf => ?_) (fun c3 hf => ?_)
  · refine ab_iconst (pc2 := 27) (v := (-1)) dX12_byLaw_26 rfl ab_k_iconst_m1 ?_
    cases Option.some.inj hf
    exact ab_retI dX12_byLaw_27 (Or.inl rfl) (Nat.le_refl _) (Nat.le_refl _) ⟨rfl, rfl⟩
  · refine ab_iload_n (pc2 := 13) dX12_byLaw_12 rfl rfl ?_
    obtain ⟨w4, ew4, hf⟩ := ab_bind hf
    refine ab_callS (pc2 := 16) (st := []) (m_X12_isShelf (d := (d + 5)) ew4) mf_X12_isShelf tw_103 tw_104 dX12_byLaw_13 rfl (by omega) (Nat.le_refl _) (Nat.le_refl _) rfl (Nat.le_of_ble_eq_true rfl) (fun v u hp => ?_)
    obtain ⟨rfl, rfl, z5⟩ := hp
    show ab_T _ _ _ _ 0 0 16 _ (.int _ :: []) _ _
    refine ab_if_eq (tgt := 26) (pc2 := 19) dX12_byLaw_16 (by decide) rfl hf (fun c6 hf => ?_) (fun c6 hf => ?_)
    · refine ab_iconst (pc2 := 27) (v := (-1)) dX12_byLaw_26 rfl ab_k_iconst_m1 ?_
      cases Option.some.inj hf
      exact ab_retI dX12_byLaw_27 (Or.inl rfl) (Nat.le_refl _) (Nat.le_refl _) ⟨rfl, rfl⟩
    · refine ab_iload_n (pc2 := 20) dX12_byLaw_19 rfl rfl ?_
      obtain ⟨w7, ew7, hf⟩ := ab_bind hf
      refine ab_callS (pc2 := 23) (st := []) (m_X12_areNails (d := (d + 5)) ew7) mf_X12_areNails tw_223 tw_224 dX12_byLaw_20 rfl (by omega) (Nat.le_refl _) (Nat.le_refl _) rfl (Nat.le_of_ble_eq_true rfl) (fun v u hp => ?_)
      obtain ⟨rfl, rfl, z8⟩ := hp
      show ab_T _ _ _ _ 0 0 23 _ (.int _ :: []) _ _
      refine ab_if_ne (tgt := 28) (pc2 := 26) dX12_byLaw_23 (by decide) rfl hf (fun c9 hf => ?_) (fun c9 hf => ?_)
      · refine ab_aload_n (x := _) (pc2 := 29) dX12_byLaw_28 rfl rfl ?_
        refine ab_iload_n (pc2 := 30) dX12_byLaw_29 rfl rfl ?_
        obtain ⟨w10, ew10, hf⟩ := ab_bind hf
        refine ab_callV (pc2 := 33) (st := []) rfl ht0 (by decide) (m_X12_wrongList (d := (d + 3)) ht0 ew10) mf_X12_wrongList tw_226 tw_225 ts_X12_wrongList (Or.inl (by decide +kernel)) dX12_byLaw_30 rfl (by omega) (Nat.le_refl _) (Nat.le_refl _) rfl (Nat.le_of_ble_eq_true rfl) (fun v u hp => ?_)
        obtain ⟨rfl, rfl⟩ := hp
        show ab_T _ _ _ _ 0 0 33 _ (.int _ :: []) _ _
        refine ab_istore (pc2 := 35) (lo2 := [some (va_rf _), some (.int _), some (.int _), some (.int _), some (.int _), none]) dX12_byLaw_33 rfl (by decide) rfl ?_
        refine ab_iload (pc2 := 37) dX12_byLaw_35 rfl rfl ?_
        refine ab_if_eq (tgt := 43) (pc2 := 40) dX12_byLaw_37 (by decide) rfl hf (fun c11 hf => ?_) (fun c11 hf => ?_)
        · refine ab_aload_n (x := _) (pc2 := 44) dX12_byLaw_43 rfl rfl ?_
          refine ab_getR (pc2 := 47) rfl ht0 fa_X12_9 dX12_byLaw_44 rfl (fun T12 => ?_)
          refine ab_iconst (pc2 := 48) (v := 3) dX12_byLaw_47 rfl ab_k_iconst_3 ?_
          obtain ⟨q13, hq13, hf⟩ := ab_bind hf
          obtain ⟨b14, hf⟩ := ab_guard hf
          refine ab_iald (pc2 := 49) hq13 (T12 q13 hq13) (ab_in_vp b14) dX12_byLaw_48 rfl ?_
          refine ab_istore (pc2 := 51) (lo2 := [some (va_rf _), some (.int _), some (.int _), some (.int _), some (.int _), some (.int _)]) dX12_byLaw_49 rfl (by decide) rfl ?_
          refine ab_aload_n (x := _) (pc2 := 52) dX12_byLaw_51 rfl rfl ?_
          refine ab_getR (pc2 := 55) rfl ht0 fa_X12_9 dX12_byLaw_52 rfl (fun T15 => ?_)
          refine ab_iconst (pc2 := 56) (v := 3) dX12_byLaw_55 rfl ab_k_iconst_3 ?_
          refine ab_iload_n (pc2 := 57) dX12_byLaw_56 rfl rfl ?_
          obtain ⟨q16, hq16, hf⟩ := ab_bind hf
          obtain ⟨b17, hf⟩ := ab_guard hf
          have hf := ab_let_e hf
          refine ab_iast (pc2 := 58) hq16 (T15 q16 hq16) (ab_in_vp b17) dX12_byLaw_57 rfl ?_
          refine ab_aload_n (x := _) (pc2 := 59) dX12_byLaw_58 rfl rfl ?_
          refine ab_iload_n (pc2 := 60) dX12_byLaw_59 rfl rfl ?_
          refine ab_iload_n (pc2 := 61) dX12_byLaw_60 rfl rfl ?_
          obtain ⟨w19, ew19, hf⟩ := ab_bind hf
          refine ab_callV (pc2 := 64) (st := []) rfl ht0 (by decide) (m_X12_lays (d := (d + 5)) ht0 ew19) mf_X12_lays tw_228 tw_227 ts_X12_lays (Or.inl (by decide +kernel)) dX12_byLaw_61 rfl (by omega) (Nat.le_refl _) (Nat.le_refl _) rfl (Nat.le_of_ble_eq_true rfl) (fun v u hp => ?_)
          obtain ⟨rfl, rfl⟩ := hp
          show ab_T _ _ _ _ 0 0 64 _ ([]) _ _
          refine ab_aload_n (x := _) (pc2 := 65) dX12_byLaw_64 rfl rfl ?_
          obtain ⟨w20, ew20, hf⟩ := ab_bind hf
          refine ab_callV (pc2 := 68) (st := []) rfl ht0 (by decide) (m_X12_pairOf (d := (d + 0)) ht0 ew20) mf_X12_pairOf tw_230 tw_229 ts_X12_pairOf (Or.inl (by decide +kernel)) dX12_byLaw_65 rfl (by omega) (Nat.le_refl _) (Nat.le_refl _) rfl (Nat.le_of_ble_eq_true rfl) (fun v u hp => ?_)
          obtain ⟨rfl, rfl⟩ := hp
          show ab_T _ _ _ _ 0 0 68 _ ([]) _ _
          refine ab_aload_n (x := _) (pc2 := 69) dX12_byLaw_68 rfl rfl ?_
          refine ab_getR (pc2 := 72) rfl ht0 fa_X12_9 dX12_byLaw_69 rfl (fun T21 => ?_)
          refine ab_iconst (pc2 := 73) (v := 3) dX12_byLaw_72 rfl ab_k_iconst_3 ?_
          refine ab_iload (pc2 := 75) dX12_byLaw_73 rfl rfl ?_
          obtain ⟨q22, hq22, hf⟩ := ab_bind hf
          obtain ⟨b23, hf⟩ := ab_guard hf
          have hf := ab_let_e hf
          refine ab_iast (pc2 := 76) hq22 (T21 q22 hq22) (ab_in_vp b23) dX12_byLaw_75 rfl ?_
          refine ab_aload_n (x := _) (pc2 := 77) dX12_byLaw_76 rfl rfl ?_
          refine ab_getI (pc2 := 80) rfl ht0 fa_X12_175 (by decide) dX12_byLaw_77 rfl ?_
          obtain ⟨w25, ew25, hf⟩ := ab_bind hf
          refine ab_callS (pc2 := 83) (st := []) (m_X12_bits (d := (d + 6)) ew25) mf_X12_bits tw_246 tw_247 dX12_byLaw_80 rfl (by omega) (Nat.le_refl _) (Nat.le_refl _) rfl (Nat.le_of_ble_eq_true rfl) (fun v u hp => ?_)
          obtain ⟨rfl, rfl⟩ := hp
          show ab_T _ _ _ _ 0 0 83 _ (.int _ :: []) _ _
          cases Option.some.inj hf
          exact ab_retI dX12_byLaw_83 (Or.inl rfl) (Nat.le_refl _) (Nat.le_refl _) ⟨rfl, rfl⟩
        · refine ab_iload (pc2 := 42) dX12_byLaw_40 rfl rfl ?_
          cases Option.some.inj hf
          exact ab_retI dX12_byLaw_42 (Or.inl rfl) (Nat.le_refl _) (Nat.le_refl _) ⟨rfl, rfl⟩
      · refine ab_iconst (pc2 := 27) (v := (-1)) dX12_byLaw_26 rfl ab_k_iconst_m1 ?_
        cases Option.some.inj hf
        exact ab_retI dX12_byLaw_27 (Or.inl rfl) (Nat.le_refl _) (Nat.le_refl _) ⟨rfl, rfl⟩
set_option maxHeartbeats 4000000 in
set_option maxRecDepth 100000 in
theorem m_X12_byLaw {d : Nat} {t0 : Nat} {i1 : Int32} {i2 : Int32} {i3 : Int32} {h : ab_HP} {r : (Int32 × ab_HP)} (ht0 : (ab_shp t0).1 = 5) (hf : f_X12_byLaw t0 i1 i2 i3 h = some r) : ab_MET mX12_byLaw (d + 7) 0 0 [va_rf (some t0), .int i1, .int i2, .int i3] h (ab_Pi r.1 r.2) := ab_met (by decide +kernel) (by decide +kernel) (Nat.le_of_ble_eq_true rfl) rfl (x_X12_byLaw ht0 hf)
set_option maxHeartbeats 4000000 in
set_option maxRecDepth 100000 in
theorem x_X12_drawn {d : Nat} {t0 : Nat} {i1 : Int32} {h : ab_HP} {r : (Int32 × ab_HP)} (ht0 : (ab_shp t0).1 = 5) (hf : f_X12_drawn t0 i1 h = some r) : ab_T mX12_drawn (d + 0) 0 0 0 0 0 [some (va_rf (some t0)), some (.int i1)] [] h (ab_Pi r.1 r.2) := by
  unfold f_X12_drawn at hf
  refine ab_aload_n (x := _) (pc2 := 1) dX12_drawn_0 rfl rfl ?_
  refine ab_aload_n (x := _) (pc2 := 2) dX12_drawn_1 rfl rfl ?_
  refine ab_getI (pc2 := 5) rfl ht0 fa_X12_288 (by decide) dX12_drawn_2 rfl ?_
  refine ab_ldcw (pc2 := 8) (v := 1103515245) dX12_drawn_5 rfl tw_311 ?_
  refine ab_imul (pc2 := 9) dX12_drawn_8 rfl ?_
  refine ab_sipush (pc2 := 12) (v := 12345) dX12_drawn_9 rfl ab_k_sipush_12345 ?_
  refine ab_iadd (pc2 := 13) dX12_drawn_12 rfl ?_
  have hf := ab_let_e hf
  refine ab_putI (pc2 := 16) rfl ht0 fa_X12_288 (Or.inl rfl) (fun z => by cases z) dX12_drawn_13 rfl ?_
  refine ab_aload_n (x := _) (pc2 := 17) dX12_drawn_16 rfl rfl ?_
  refine ab_getI (pc2 := 20) rfl ht0 fa_X12_288 (by decide) dX12_drawn_17 rfl ?_
  refine ab_ldcw (pc2 := 23) (v := 2147483647) dX12_drawn_20 rfl tw_312 ?_
  refine ab_iand (pc2 := 24) dX12_drawn_23 rfl ?_
  refine ab_ldcw (pc2 := 27) (v := 65536) dX12_drawn_24 rfl tw_313 ?_
  refine ab_idiv (pc2 := 28) dX12_drawn_27 rfl (by decide) ?_
  refine ab_iload_n (pc2 := 29) dX12_drawn_28 rfl rfl ?_
  obtain ⟨hz, hf⟩ := ab_guardN hf
  refine ab_irem (pc2 := 30) dX12_drawn_29 rfl hz ?_
  cases Option.some.inj hf
  exact ab_retI dX12_drawn_30 (Or.inl rfl) (Nat.le_refl _) (Nat.le_refl _) ⟨rfl, rfl⟩
set_option maxHeartbeats 4000000 in
set_option maxRecDepth 100000 in
theorem m_X12_drawn {d : Nat} {t0 : Nat} {i1 : Int32} {h : ab_HP} {r : (Int32 × ab_HP)} (ht0 : (ab_shp t0).1 = 5) (hf : f_X12_drawn t0 i1 h = some r) : ab_MET mX12_drawn (d + 0) 0 0 [va_rf (some t0), .int i1] h (ab_Pi r.1 r.2) := ab_met (by decide +kernel) (by decide +kernel) (Nat.le_of_ble_eq_true rfl) rfl (x_X12_drawn ht0 hf)
set_option maxHeartbeats 4000000 in
set_option maxRecDepth 100000 in
theorem x_X12_seeded_l71 {d : Nat} {k51 : Int32 → Int32 → Int32 → ab_HP → Option (Int32 × ab_HP)} {t0 : Nat} {r : (Int32 × ab_HP)} (ht0 : (ab_shp t0).1 = 5) (hk51 : ∀ (i1 : Int32) (i3 : Int32) (i4 : Int32) (h : ab_HP), k51 i1 i3 i4 h = some r → ab_T mX12_seeded (d + 7) 0 0 0 0 51 [some (va_rf (some t0)), some (.int i1), none, some (.int i3), some (.int i4), none] [] h (ab_Pi r.1 r.2)) : ∀ (n : Nat) (i1 : Int32) (i3 : Int32) (i4 : Int32) (i5 : Int32) (h : ab_HP), f_X12_seeded_l71 k51 t0 n i1 i3 i4 i5 h = some r → ab_T mX12_seeded (d + 7) 0 0 0 0 71 [some (va_rf (some t0)), some (.int i1), none, some (.int i3), some (.int i4), some (.int i5)] [] h (ab_Pi r.1 r.2) := by
  intro n
  induction n with
  | zero =>
    intro i1 i3 i4 i5 h hf
    rw [f_X12_seeded_l71] at hf
    cases hf
  | succ n ih =>
    intro i1 i3 i4 i5 h hf
    rw [f_X12_seeded_l71] at hf
    refine ab_iload (pc2 := 73) dX12_seeded_71 rfl rfl ?_
    refine ab_aload_n (x := _) (pc2 := 74) dX12_seeded_73 rfl rfl ?_
    refine ab_getI (pc2 := 77) rfl ht0 fa_X12_166 (by decide) dX12_seeded_74 rfl ?_
    refine ab_icmp_ge (tgt := 104) (pc2 := 80) dX12_seeded_77 (by decide) rfl hf (fun c18 hf => ?_) (fun c18 hf => ?_)
    · refine ab_aload_n (x := _) (pc2 := 105) dX12_seeded_104 rfl rfl ?_
      refine ab_aload_n (x := _) (pc2 := 106) dX12_seeded_105 rfl rfl ?_
      refine ab_iconst (pc2 := 107) (v := 1) dX12_seeded_106 rfl ab_k_iconst_1 ?_
      refine ab_aload_n (x := _) (pc2 := 108) dX12_seeded_107 rfl rfl ?_
      refine ab_getI (pc2 := 111) rfl ht0 fa_X12_166 (by decide) dX12_seeded_108 rfl ?_
      refine ab_ishl (pc2 := 112) dX12_seeded_111 rfl ?_
      obtain ⟨w19, ew19, hf⟩ := ab_bind hf
      refine ab_callV (pc2 := 115) (st := [_]) rfl ht0 (by decide) (m_X12_drawn (d := (d + 6)) ht0 ew19) mf_X12_drawn tw_316 tw_315 ts_X12_drawn (Or.inl (by decide +kernel)) dX12_seeded_112 rfl (by omega) (Nat.le_refl _) (Nat.le_refl _) rfl (Nat.le_of_ble_eq_true rfl) (fun v u hp => ?_)
      obtain ⟨rfl, rfl⟩ := hp
      show ab_T _ _ _ _ 0 0 115 _ (.int _ :: [_]) _ _
      have hf := ab_let_e hf
      refine ab_putI (pc2 := 118) rfl ht0 fa_X12_169 (Or.inl rfl) (fun z => by cases z) dX12_seeded_115 rfl ?_
      refine ab_aload_n (x := _) (pc2 := 119) dX12_seeded_118 rfl rfl ?_
      obtain ⟨w21, ew21, hf⟩ := ab_bind hf
      refine ab_callV (pc2 := 122) (st := []) rfl ht0 (by decide) (m_X12_pairOf (d := (d + 0)) ht0 ew21) mf_X12_pairOf tw_230 tw_229 ts_X12_pairOf (Or.inl (by decide +kernel)) dX12_seeded_119 rfl (by omega) (Nat.le_refl _) (Nat.le_refl _) rfl (Nat.le_of_ble_eq_true rfl) (fun v u hp => ?_)
      obtain ⟨rfl, rfl⟩ := hp
      show ab_T _ _ _ _ 0 0 122 _ ([]) _ _
      refine ab_iinc (pc2 := 125) (v := _ + 1) (lo2 := [some (va_rf _), some (.int _), none, some (.int _), some (.int _), some (.int _)]) dX12_seeded_122 rfl rfl rfl (by decide) rfl ?_
      refine ab_goto (tgt := 51) dX12_seeded_125 (by decide) ?_
      exact ab_weak (hk51 _ _ _ _ hf) (ab_leS (ab_leS (ab_leN (ab_leS (ab_leS (ab_leN ab_le0))))))
    · refine ab_aload_n (x := _) (pc2 := 81) dX12_seeded_80 rfl rfl ?_
      refine ab_getR (pc2 := 84) rfl ht0 fa_X12_40 dX12_seeded_81 rfl (fun T22 => ?_)
      refine ab_iload (pc2 := 86) dX12_seeded_84 rfl rfl ?_
      refine ab_aload_n (x := _) (pc2 := 87) dX12_seeded_86 rfl rfl ?_
      refine ab_aload_n (x := _) (pc2 := 88) dX12_seeded_87 rfl rfl ?_
      refine ab_getR (pc2 := 91) rfl ht0 fa_X12_9 dX12_seeded_88 rfl (fun T23 => ?_)
      refine ab_bipush (pc2 := 93) (v := 6) dX12_seeded_91 rfl ab_k_bipush_6 ?_
      obtain ⟨q24, hq24, hf⟩ := ab_bind hf
      obtain ⟨b25, hf⟩ := ab_guard hf
      refine ab_iald (pc2 := 94) hq24 (T23 q24 hq24) (ab_in_vp b25) dX12_seeded_93 rfl ?_
      obtain ⟨w26, ew26, hf⟩ := ab_bind hf
      refine ab_callV (pc2 := 97) (st := [_, _]) rfl ht0 (by decide) (m_X12_drawn (d := (d + 6)) ht0 ew26) mf_X12_drawn tw_316 tw_315 ts_X12_drawn (Or.inl (by decide +kernel)) dX12_seeded_94 rfl (by omega) (Nat.le_refl _) (Nat.le_refl _) rfl (Nat.le_of_ble_eq_true rfl) (fun v u hp => ?_)
      obtain ⟨rfl, rfl⟩ := hp
      show ab_T _ _ _ _ 0 0 97 _ (.int _ :: [_, _]) _ _
      obtain ⟨q27, hq27, hf⟩ := ab_bind hf
      obtain ⟨b28, hf⟩ := ab_guard hf
      have hf := ab_let_e hf
      refine ab_iast (pc2 := 98) hq27 (T22 q27 hq27) (ab_in_vp b28) dX12_seeded_97 rfl ?_
      refine ab_iinc (pc2 := 101) (v := _ + 1) (lo2 := [some (va_rf _), some (.int _), none, some (.int _), some (.int _), some (.int _)]) dX12_seeded_98 rfl rfl rfl (by decide) rfl ?_
      refine ab_goto (tgt := 71) dX12_seeded_101 (by decide) ?_
      exact ab_weak (ih _ _ _ _ _ hf) (ab_leS (ab_leS (ab_leN (ab_leS (ab_leS (ab_leS ab_le0))))))
set_option maxHeartbeats 4000000 in
set_option maxRecDepth 100000 in
theorem x_X12_seeded_l51 {d : Nat} {t0 : Nat} {r : (Int32 × ab_HP)} (ht0 : (ab_shp t0).1 = 5) : ∀ (n : Nat) (i1 : Int32) (i3 : Int32) (i4 : Int32) (h : ab_HP), f_X12_seeded_l51 t0 n i1 i3 i4 h = some r → ab_T mX12_seeded (d + 7) 0 0 0 0 51 [some (va_rf (some t0)), some (.int i1), none, some (.int i3), some (.int i4), none] [] h (ab_Pi r.1 r.2) := by
  intro n
  induction n with
  | zero =>
    intro i1 i3 i4 h hf
    rw [f_X12_seeded_l51] at hf
    cases hf
  | succ n ih =>
    intro i1 i3 i4 h hf
    rw [f_X12_seeded_l51] at hf
    refine ab_iload (pc2 := 53) dX12_seeded_51 rfl rfl ?_
    refine ab_iload_n (pc2 := 54) dX12_seeded_53 rfl rfl ?_
    refine ab_icmp_ge (tgt := 128) (pc2 := 57) dX12_seeded_54 (by decide) rfl hf (fun c13 hf => ?_) (fun c13 hf => ?_)
    · refine ab_iload_n (pc2 := 129) dX12_seeded_128 rfl rfl ?_
      refine ab_if_ne (tgt := 139) (pc2 := 132) dX12_seeded_129 (by decide) rfl hf (fun c14 hf => ?_) (fun c14 hf => ?_)
      · refine ab_iload_n (pc2 := 140) dX12_seeded_139 rfl rfl ?_
        refine ab_iconst (pc2 := 141) (v := 1) dX12_seeded_140 rfl ab_k_iconst_1 ?_
        refine ab_icmp_ne (tgt := 151) (pc2 := 144) dX12_seeded_141 (by decide) rfl hf (fun c15 hf => ?_) (fun c15 hf => ?_)
        · refine ab_aload_n (x := _) (pc2 := 152) dX12_seeded_151 rfl rfl ?_
          refine ab_getI (pc2 := 155) rfl ht0 fa_X12_184 (by decide) dX12_seeded_152 rfl ?_
          cases Option.some.inj hf
          exact ab_retI dX12_seeded_155 (Or.inl rfl) (Nat.le_refl _) (Nat.le_refl _) ⟨rfl, rfl⟩
        · refine ab_aload_n (x := _) (pc2 := 145) dX12_seeded_144 rfl rfl ?_
          refine ab_getI (pc2 := 148) rfl ht0 fa_X12_178 (by decide) dX12_seeded_145 rfl ?_
          refine ab_goto (tgt := 155) dX12_seeded_148 (by decide) ?_
          cases Option.some.inj hf
          exact ab_retI dX12_seeded_155 (Or.inl rfl) (Nat.le_refl _) (Nat.le_refl _) ⟨rfl, rfl⟩
      · refine ab_aload_n (x := _) (pc2 := 133) dX12_seeded_132 rfl rfl ?_
        refine ab_getI (pc2 := 136) rfl ht0 fa_X12_175 (by decide) dX12_seeded_133 rfl ?_
        refine ab_goto (tgt := 155) dX12_seeded_136 (by decide) ?_
        cases Option.some.inj hf
        exact ab_retI dX12_seeded_155 (Or.inl rfl) (Nat.le_refl _) (Nat.le_refl _) ⟨rfl, rfl⟩
    · refine ab_aload_n (x := _) (pc2 := 58) dX12_seeded_57 rfl rfl ?_
      refine ab_iconst (pc2 := 59) (v := 1) dX12_seeded_58 rfl ab_k_iconst_1 ?_
      refine ab_aload_n (x := _) (pc2 := 60) dX12_seeded_59 rfl rfl ?_
      refine ab_iconst (pc2 := 61) (v := 4) dX12_seeded_60 rfl ab_k_iconst_4 ?_
      obtain ⟨w16, ew16, hf⟩ := ab_bind hf
      refine ab_callV (pc2 := 64) (st := [_, _]) rfl ht0 (by decide) (m_X12_drawn (d := (d + 6)) ht0 ew16) mf_X12_drawn tw_316 tw_315 ts_X12_drawn (Or.inl (by decide +kernel)) dX12_seeded_61 rfl (by omega) (Nat.le_refl _) (Nat.le_refl _) rfl (Nat.le_of_ble_eq_true rfl) (fun v u hp => ?_)
      obtain ⟨rfl, rfl⟩ := hp
      show ab_T _ _ _ _ 0 0 64 _ (.int _ :: [_, _]) _ _
      refine ab_iadd (pc2 := 65) dX12_seeded_64 rfl ?_
      have hf := ab_let_e hf
      refine ab_putI (pc2 := 68) rfl ht0 fa_X12_166 (Or.inl rfl) (fun z => by cases z) dX12_seeded_65 rfl ?_
      refine ab_iconst (pc2 := 69) (v := 0) dX12_seeded_68 rfl ab_k_iconst_0 ?_
      refine ab_istore (pc2 := 71) (lo2 := [some (va_rf _), some (.int _), none, some (.int _), some (.int _), some (.int _)]) dX12_seeded_69 rfl (by decide) rfl ?_
      exact ab_weak (x_X12_seeded_l71 ht0 ih _ _ _ _ _ _ hf) (ab_leS (ab_leS (ab_leN (ab_leS (ab_leS (ab_leS ab_le0))))))
set_option maxHeartbeats 4000000 in
set_option maxRecDepth 100000 in
theorem x_X12_seeded {d : Nat} {t0 : Nat} {i1 : Int32} {i2 : Int32} {i3 : Int32} {h : ab_HP} {r : (Int32 × ab_HP)} (ht0 : (ab_shp t0).1 = 5) (hf : f_X12_seeded t0 i1 i2 i3 h = some r) : ab_T mX12_seeded (d + 7) 0 0 0 0 0 [some (va_rf (some t0)), some (.int i1), some (.int i2), some (.int i3), none, none] [] h (ab_Pi r.1 r.2) := by
  unfold f_X12_seeded at hf
  refine ab_iload_n (pc2 := 1) dX12_seeded_0 rfl rfl ?_
  refine ab_i2l (pc2 := 2) dX12_seeded_1 rfl ?_
  refine ab_lconst (pc2 := 3) (v := 1) dX12_seeded_2 rfl rfl ?_
  refine ab_ldc2 (pc2 := 6) (v := 30) dX12_seeded_3 rfl tw_314 ?_
  obtain ⟨w1, ew1, hf⟩ := ab_bind hf
  refine ab_callS (pc2 := 9) (st := []) (m_X12_isIn (d := (d + 6)) ew1) mf_X12_isIn tw_101 tw_102 dX12_seeded_6 rfl (by omega) (Nat.le_refl _) (Nat.le_refl _) rfl (Nat.le_of_ble_eq_true rfl) (fun v u hp => ?_)
  obtain ⟨rfl, rfl, z2⟩ := hp
  show ab_T _ _ _ _ 0 0 9 _ (.int _ :: []) _ _
  refine ab_if_eq (tgt := 24) (pc2 := 12) dX12_seeded_9 (by decide) rfl hf (fun c3 hf => ?_) (fun c3 hf => ?_)
  · refine ab_iconst (pc2 := 25) (v := (-1)) dX12_seeded_24 rfl ab_k_iconst_m1 ?_
    cases Option.some.inj hf
    exact ab_retI dX12_seeded_25 (Or.inl rfl) (Nat.le_refl _) (Nat.le_refl _) ⟨rfl, rfl⟩
  · refine ab_iload_n (pc2 := 13) dX12_seeded_12 rfl rfl ?_
    refine ab_i2l (pc2 := 14) dX12_seeded_13 rfl ?_
    refine ab_lconst (pc2 := 15) (v := 0) dX12_seeded_14 rfl rfl ?_
    refine ab_ldc2 (pc2 := 18) (v := 2) dX12_seeded_15 rfl tw_143 ?_
    obtain ⟨w4, ew4, hf⟩ := ab_bind hf
    refine ab_callS (pc2 := 21) (st := []) (m_X12_isIn (d := (d + 6)) ew4) mf_X12_isIn tw_101 tw_102 dX12_seeded_18 rfl (by omega) (Nat.le_refl _) (Nat.le_refl _) rfl (Nat.le_of_ble_eq_true rfl) (fun v u hp => ?_)
    obtain ⟨rfl, rfl, z5⟩ := hp
    show ab_T _ _ _ _ 0 0 21 _ (.int _ :: []) _ _
    refine ab_if_ne (tgt := 26) (pc2 := 24) dX12_seeded_21 (by decide) rfl hf (fun c6 hf => ?_) (fun c6 hf => ?_)
    · refine ab_aload_n (x := _) (pc2 := 27) dX12_seeded_26 rfl rfl ?_
      refine ab_getR (pc2 := 30) rfl ht0 fa_X12_9 dX12_seeded_27 rfl (fun T7 => ?_)
      refine ab_bipush (pc2 := 32) (v := 6) dX12_seeded_30 rfl ab_k_bipush_6 ?_
      obtain ⟨q8, hq8, hf⟩ := ab_bind hf
      obtain ⟨b9, hf⟩ := ab_guard hf
      refine ab_iald (pc2 := 33) hq8 (T7 q8 hq8) (ab_in_vp b9) dX12_seeded_32 rfl ?_
      refine ab_if_ne (tgt := 39) (pc2 := 36) dX12_seeded_33 (by decide) rfl hf (fun c10 hf => ?_) (fun c10 hf => ?_)
      · refine ab_aload_n (x := _) (pc2 := 40) dX12_seeded_39 rfl rfl ?_
        refine ab_iload_n (pc2 := 41) dX12_seeded_40 rfl rfl ?_
        have hf := ab_let_e hf
        refine ab_putI (pc2 := 44) rfl ht0 fa_X12_288 (Or.inl rfl) (fun z => by cases z) dX12_seeded_41 rfl ?_
        refine ab_aload_n (x := _) (pc2 := 45) dX12_seeded_44 rfl rfl ?_
        obtain ⟨w12, ew12, hf⟩ := ab_bind hf
        refine ab_callV (pc2 := 48) (st := []) rfl ht0 (by decide) (m_X12_begins (d := (d + 6)) ht0 ew12) mf_X12_begins tw_206 tw_205 ts_X12_begins (Or.inl (by decide +kernel)) dX12_seeded_45 rfl (by omega) (Nat.le_refl _) (Nat.le_refl _) rfl (Nat.le_of_ble_eq_true rfl) (fun v u hp => ?_)
        obtain ⟨rfl, rfl⟩ := hp
        show ab_T _ _ _ _ 0 0 48 _ ([]) _ _
        refine ab_iconst (pc2 := 49) (v := 0) dX12_seeded_48 rfl ab_k_iconst_0 ?_
        refine ab_istore (pc2 := 51) (lo2 := [some (va_rf _), some (.int _), some (.int _), some (.int _), some (.int _), none]) dX12_seeded_49 rfl (by decide) rfl ?_
        exact ab_weak (x_X12_seeded_l51 ht0 _ _ _ _ _ hf) (ab_leS (ab_leS (ab_leN (ab_leS (ab_leS (ab_leN ab_le0))))))
      · refine ab_bipush (pc2 := 38) (v := (-3)) dX12_seeded_36 rfl ab_k_bipush_m3 ?_
        cases Option.some.inj hf
        exact ab_retI dX12_seeded_38 (Or.inl rfl) (Nat.le_refl _) (Nat.le_refl _) ⟨rfl, rfl⟩
    · refine ab_iconst (pc2 := 25) (v := (-1)) dX12_seeded_24 rfl ab_k_iconst_m1 ?_
      cases Option.some.inj hf
      exact ab_retI dX12_seeded_25 (Or.inl rfl) (Nat.le_refl _) (Nat.le_refl _) ⟨rfl, rfl⟩
set_option maxHeartbeats 4000000 in
set_option maxRecDepth 100000 in
theorem m_X12_seeded {d : Nat} {t0 : Nat} {i1 : Int32} {i2 : Int32} {i3 : Int32} {h : ab_HP} {r : (Int32 × ab_HP)} (ht0 : (ab_shp t0).1 = 5) (hf : f_X12_seeded t0 i1 i2 i3 h = some r) : ab_MET mX12_seeded (d + 7) 0 0 [va_rf (some t0), .int i1, .int i2, .int i3] h (ab_Pi r.1 r.2) := ab_met (by decide +kernel) (by decide +kernel) (Nat.le_of_ble_eq_true rfl) rfl (x_X12_seeded ht0 hf)
set_option maxHeartbeats 4000000 in
set_option maxRecDepth 100000 in
theorem x_X12_leastOf {d : Nat} {t0 : Nat} {i1 : Int32} {h : ab_HP} {r : Int32} (ht0 : (ab_shp t0).1 = 5) (hf : f_X12_leastOf t0 i1 h = some r) : ab_T mX12_leastOf (d + 0) 0 0 0 0 0 [some (va_rf (some t0)), some (.int i1)] [] h (ab_Pi r h) := by
  unfold f_X12_leastOf at hf
  refine ab_aload_n (x := _) (pc2 := 1) dX12_leastOf_0 rfl rfl ?_
  refine ab_getR (pc2 := 4) rfl ht0 fa_X12_22 dX12_leastOf_1 rfl (fun T1 => ?_)
  refine ab_iload_n (pc2 := 5) dX12_leastOf_4 rfl rfl ?_
  obtain ⟨q2, hq2, hf⟩ := ab_bind hf
  obtain ⟨b3, hf⟩ := ab_guard hf
  refine ab_iald (pc2 := 6) hq2 (T1 q2 hq2) (ab_in_vp b3) dX12_leastOf_5 rfl ?_
  refine ab_if_ne (tgt := 14) (pc2 := 9) dX12_leastOf_6 (by decide) rfl hf (fun c4 hf => ?_) (fun c4 hf => ?_)
  · refine ab_aload_n (x := _) (pc2 := 15) dX12_leastOf_14 rfl rfl ?_
    refine ab_getR (pc2 := 18) rfl ht0 fa_X12_22 dX12_leastOf_15 rfl (fun T5 => ?_)
    refine ab_iload_n (pc2 := 19) dX12_leastOf_18 rfl rfl ?_
    obtain ⟨q6, hq6, hf⟩ := ab_bind hf
    obtain ⟨b7, hf⟩ := ab_guard hf
    refine ab_iald (pc2 := 20) hq6 (T5 q6 hq6) (ab_in_vp b7) dX12_leastOf_19 rfl ?_
    refine ab_iconst (pc2 := 21) (v := 1) dX12_leastOf_20 rfl ab_k_iconst_1 ?_
    refine ab_icmp_ne (tgt := 30) (pc2 := 24) dX12_leastOf_21 (by decide) rfl hf (fun c8 hf => ?_) (fun c8 hf => ?_)
    · refine ab_ldcw (pc2 := 33) (v := (-2147483648)) dX12_leastOf_30 rfl tw_322 ?_
      cases Option.some.inj hf
      exact ab_retI dX12_leastOf_33 (Or.inl rfl) (Nat.le_refl _) (Nat.le_refl _) ⟨rfl, rfl⟩
    · refine ab_sipush (pc2 := 27) (v := (-32768)) dX12_leastOf_24 rfl ab_k_sipush_m32768 ?_
      refine ab_goto (tgt := 33) dX12_leastOf_27 (by decide) ?_
      cases Option.some.inj hf
      exact ab_retI dX12_leastOf_33 (Or.inl rfl) (Nat.le_refl _) (Nat.le_refl _) ⟨rfl, rfl⟩
  · refine ab_bipush (pc2 := 11) (v := (-128)) dX12_leastOf_9 rfl ab_k_bipush_m128 ?_
    refine ab_goto (tgt := 33) dX12_leastOf_11 (by decide) ?_
    cases Option.some.inj hf
    exact ab_retI dX12_leastOf_33 (Or.inl rfl) (Nat.le_refl _) (Nat.le_refl _) ⟨rfl, rfl⟩
set_option maxHeartbeats 4000000 in
set_option maxRecDepth 100000 in
theorem m_X12_leastOf {d : Nat} {t0 : Nat} {i1 : Int32} {h : ab_HP} {r : Int32} (ht0 : (ab_shp t0).1 = 5) (hf : f_X12_leastOf t0 i1 h = some r) : ab_MET mX12_leastOf (d + 0) 0 0 [va_rf (some t0), .int i1] h (ab_Pi r h) := ab_met (by decide +kernel) (by decide +kernel) (Nat.le_of_ble_eq_true rfl) rfl (x_X12_leastOf ht0 hf)
set_option maxHeartbeats 4000000 in
set_option maxRecDepth 100000 in
theorem x_X12_judge_l64 {d : Nat} {t0 : Nat} {r : (Int32 × ab_HP)} (ht0 : (ab_shp t0).1 = 5) : ∀ (n : Nat) (i3 : Int32) (i5 : Int32) (h : ab_HP), f_X12_judge_l64 t0 n i3 i5 h = some r → ab_T mX12_judge (d + 7) 0 0 0 0 64 [some (va_rf (some t0)), none, none, some (.int i3), none, some (.int i5), none] [] h (ab_Pi r.1 r.2) := by
  intro n
  induction n with
  | zero =>
    intro i3 i5 h hf
    rw [f_X12_judge_l64] at hf
    cases hf
  | succ n ih =>
    intro i3 i5 h hf
    rw [f_X12_judge_l64] at hf
    refine ab_iload (pc2 := 66) dX12_judge_64 rfl rfl ?_
    refine ab_aload_n (x := _) (pc2 := 67) dX12_judge_66 rfl rfl ?_
    refine ab_getR (pc2 := 70) rfl ht0 fa_X12_25 dX12_judge_67 rfl (fun T16 => ?_)
    refine ab_iload_n (pc2 := 71) dX12_judge_70 rfl rfl ?_
    obtain ⟨q17, hq17, hf⟩ := ab_bind hf
    obtain ⟨b18, hf⟩ := ab_guard hf
    refine ab_iald (pc2 := 72) hq17 (T16 q17 hq17) (ab_in_vp b18) dX12_judge_71 rfl ?_
    refine ab_icmp_ge (tgt := 148) (pc2 := 75) dX12_judge_72 (by decide) rfl hf (fun c19 hf => ?_) (fun c19 hf => ?_)
    · refine ab_bipush (pc2 := 150) (v := (-4)) dX12_judge_148 rfl ab_k_bipush_m4 ?_
      cases Option.some.inj hf
      exact ab_retI dX12_judge_150 (Or.inl rfl) (Nat.le_refl _) (Nat.le_refl _) ⟨rfl, rfl⟩
    · refine ab_aload_n (x := _) (pc2 := 76) dX12_judge_75 rfl rfl ?_
      refine ab_getR (pc2 := 79) rfl ht0 fa_X12_28 dX12_judge_76 rfl (fun T20 => ?_)
      refine ab_bipush (pc2 := 81) (v := 100) dX12_judge_79 rfl ab_k_bipush_100 ?_
      refine ab_iload_n (pc2 := 82) dX12_judge_81 rfl rfl ?_
      refine ab_imul (pc2 := 83) dX12_judge_82 rfl ?_
      refine ab_iload (pc2 := 85) dX12_judge_83 rfl rfl ?_
      refine ab_iadd (pc2 := 86) dX12_judge_85 rfl ?_
      obtain ⟨q21, hq21, hf⟩ := ab_bind hf
      obtain ⟨b22, hf⟩ := ab_guard hf
      refine ab_iald (pc2 := 87) hq21 (T20 q21 hq21) (ab_in_vp b22) dX12_judge_86 rfl ?_
      have hf := ab_let_e hf
      refine ab_istore (pc2 := 89) (lo2 := [some (va_rf _), none, none, some (.int _), none, some (.int _), some (.int _)]) dX12_judge_87 rfl (by decide) rfl ?_
      refine ab_iload (pc2 := 91) dX12_judge_89 rfl rfl ?_
      refine ab_aload_n (x := _) (pc2 := 92) dX12_judge_91 rfl rfl ?_
      refine ab_iload_n (pc2 := 93) dX12_judge_92 rfl rfl ?_
      obtain ⟨w24, ew24, hf⟩ := ab_bind hf
      refine ab_callV (pc2 := 96) (st := [_]) rfl ht0 (by decide) (m_X12_leastOf (d := (d + 6)) ht0 ew24) mf_X12_leastOf tw_324 tw_323 ts_X12_leastOf (Or.inl (by decide +kernel)) dX12_judge_93 rfl (by omega) (Nat.le_refl _) (Nat.le_refl _) rfl (Nat.le_of_ble_eq_true rfl) (fun v u hp => ?_)
      obtain ⟨rfl, rfl⟩ := hp
      show ab_T _ _ _ _ 0 0 96 _ (.int _ :: [_]) _ _
      refine ab_icmp_ne (tgt := 102) (pc2 := 99) dX12_judge_96 (by decide) rfl hf (fun c25 hf => ?_) (fun c25 hf => ?_)
      · refine ab_iload (pc2 := 104) dX12_judge_102 rfl rfl ?_
        refine ab_aload_n (x := _) (pc2 := 105) dX12_judge_104 rfl rfl ?_
        refine ab_getI (pc2 := 108) rfl ht0 fa_X12_166 (by decide) dX12_judge_105 rfl ?_
        refine ab_icmp_gt (tgt := 139) (pc2 := 111) dX12_judge_108 (by decide) rfl hf (fun c26 hf => ?_) (fun c26 hf => ?_)
        · refine ab_iload (pc2 := 141) dX12_judge_139 rfl rfl ?_
          cases Option.some.inj hf
          exact ab_retI dX12_judge_141 (Or.inl rfl) (Nat.le_refl _) (Nat.le_refl _) ⟨rfl, rfl⟩
        · refine ab_iload (pc2 := 113) dX12_judge_111 rfl rfl ?_
          refine ab_iload (pc2 := 115) dX12_judge_113 rfl rfl ?_
          refine ab_aload_n (x := _) (pc2 := 116) dX12_judge_115 rfl rfl ?_
          refine ab_getI (pc2 := 119) rfl ht0 fa_X12_166 (by decide) dX12_judge_116 rfl ?_
          refine ab_icmp_ge (tgt := 132) (pc2 := 122) dX12_judge_119 (by decide) rfl hf (fun c27 hf => ?_) (fun c27 hf => ?_)
          · refine ab_aload_n (x := _) (pc2 := 133) dX12_judge_132 rfl rfl ?_
            refine ab_getI (pc2 := 136) rfl ht0 fa_X12_175 (by decide) dX12_judge_133 rfl ?_
            refine ab_icmp_eq (tgt := 142) (pc2 := 139) dX12_judge_136 (by decide) rfl hf (fun c28 hf => ?_) (fun c28 hf => ?_)
            · refine ab_iinc (pc2 := 145) (v := _ + 1) (lo2 := [some (va_rf _), none, none, some (.int _), none, some (.int _), some (.int _)]) dX12_judge_142 rfl rfl rfl (by decide) rfl ?_
              refine ab_goto (tgt := 64) dX12_judge_145 (by decide) ?_
              exact ab_weak (ih _ _ _ hf) (ab_leS (ab_leN (ab_leN (ab_leS (ab_leN (ab_leS (ab_leN ab_le0)))))))
            · refine ab_iload (pc2 := 141) dX12_judge_139 rfl rfl ?_
              cases Option.some.inj hf
              exact ab_retI dX12_judge_141 (Or.inl rfl) (Nat.le_refl _) (Nat.le_refl _) ⟨rfl, rfl⟩
          · refine ab_aload_n (x := _) (pc2 := 123) dX12_judge_122 rfl rfl ?_
            refine ab_getR (pc2 := 126) rfl ht0 fa_X12_52 dX12_judge_123 rfl (fun T29 => ?_)
            refine ab_iload (pc2 := 128) dX12_judge_126 rfl rfl ?_
            obtain ⟨q30, hq30, hf⟩ := ab_bind hf
            obtain ⟨b31, hf⟩ := ab_guard hf
            refine ab_iald (pc2 := 129) hq30 (T29 q30 hq30) (ab_in_vp b31) dX12_judge_128 rfl ?_
            refine ab_goto (tgt := 136) dX12_judge_129 (by decide) ?_
            refine ab_icmp_eq (tgt := 142) (pc2 := 139) dX12_judge_136 (by decide) rfl hf (fun c32 hf => ?_) (fun c32 hf => ?_)
            · refine ab_iinc (pc2 := 145) (v := _ + 1) (lo2 := [some (va_rf _), none, none, some (.int _), none, some (.int _), some (.int _)]) dX12_judge_142 rfl rfl rfl (by decide) rfl ?_
              refine ab_goto (tgt := 64) dX12_judge_145 (by decide) ?_
              exact ab_weak (ih _ _ _ hf) (ab_leS (ab_leN (ab_leN (ab_leS (ab_leN (ab_leS (ab_leN ab_le0)))))))
            · refine ab_iload (pc2 := 141) dX12_judge_139 rfl rfl ?_
              cases Option.some.inj hf
              exact ab_retI dX12_judge_141 (Or.inl rfl) (Nat.le_refl _) (Nat.le_refl _) ⟨rfl, rfl⟩
      · refine ab_goto (tgt := 142) dX12_judge_99 (by decide) ?_
        refine ab_iinc (pc2 := 145) (v := _ + 1) (lo2 := [some (va_rf _), none, none, some (.int _), none, some (.int _), some (.int _)]) dX12_judge_142 rfl rfl rfl (by decide) rfl ?_
        refine ab_goto (tgt := 64) dX12_judge_145 (by decide) ?_
        exact ab_weak (ih _ _ _ hf) (ab_leS (ab_leN (ab_leN (ab_leS (ab_leN (ab_leS (ab_leN ab_le0)))))))
set_option maxHeartbeats 4000000 in
set_option maxRecDepth 100000 in
theorem x_X12_judge_b43 {d : Nat} {t0 : Nat} {i1 : Int32} {i2 : Int32} {i3 : Int32} {i4 : Int32} {h : ab_HP} {r : (Int32 × ab_HP)} (ht0 : (ab_shp t0).1 = 5) (hf : f_X12_judge_b43 t0 i1 i2 i3 i4 h = some r) : ab_T mX12_judge (d + 7) 0 0 0 0 43 [some (va_rf (some t0)), some (.int i1), some (.int i2), some (.int i3), some (.int i4), none, none] [] h (ab_Pi r.1 r.2) := by
  unfold f_X12_judge_b43 at hf
  refine ab_iload (pc2 := 45) dX12_judge_43 rfl rfl ?_
  refine ab_if_eq (tgt := 51) (pc2 := 48) dX12_judge_45 (by decide) rfl hf (fun c13 hf => ?_) (fun c13 hf => ?_)
  · refine ab_aload_n (x := _) (pc2 := 52) dX12_judge_51 rfl rfl ?_
    refine ab_iload_n (pc2 := 53) dX12_judge_52 rfl rfl ?_
    refine ab_iload_n (pc2 := 54) dX12_judge_53 rfl rfl ?_
    obtain ⟨w14, ew14, hf⟩ := ab_bind hf
    refine ab_callV (pc2 := 57) (st := []) rfl ht0 (by decide) (m_X12_lays (d := (d + 5)) ht0 ew14) mf_X12_lays tw_228 tw_227 ts_X12_lays (Or.inl (by decide +kernel)) dX12_judge_54 rfl (by omega) (Nat.le_refl _) (Nat.le_refl _) rfl (Nat.le_of_ble_eq_true rfl) (fun v u hp => ?_)
    obtain ⟨rfl, rfl⟩ := hp
    show ab_T _ _ _ _ 0 0 57 _ ([]) _ _
    refine ab_aload_n (x := _) (pc2 := 58) dX12_judge_57 rfl rfl ?_
    obtain ⟨w15, ew15, hf⟩ := ab_bind hf
    refine ab_callV (pc2 := 61) (st := []) rfl ht0 (by decide) (m_X12_pairOf (d := (d + 0)) ht0 ew15) mf_X12_pairOf tw_230 tw_229 ts_X12_pairOf (Or.inl (by decide +kernel)) dX12_judge_58 rfl (by omega) (Nat.le_refl _) (Nat.le_refl _) rfl (Nat.le_of_ble_eq_true rfl) (fun v u hp => ?_)
    obtain ⟨rfl, rfl⟩ := hp
    show ab_T _ _ _ _ 0 0 61 _ ([]) _ _
    refine ab_iconst (pc2 := 62) (v := 0) dX12_judge_61 rfl ab_k_iconst_0 ?_
    refine ab_istore (pc2 := 64) (lo2 := [some (va_rf _), some (.int _), some (.int _), some (.int _), some (.int _), some (.int _), none]) dX12_judge_62 rfl (by decide) rfl ?_
    exact ab_weak (x_X12_judge_l64 ht0 _ _ _ _ hf) (ab_leS (ab_leN (ab_leN (ab_leS (ab_leN (ab_leS (ab_leN ab_le0)))))))
  · refine ab_iload (pc2 := 50) dX12_judge_48 rfl rfl ?_
    cases Option.some.inj hf
    exact ab_retI dX12_judge_50 (Or.inl rfl) (Nat.le_refl _) (Nat.le_refl _) ⟨rfl, rfl⟩
set_option maxHeartbeats 4000000 in
set_option maxRecDepth 100000 in
theorem x_X12_judge {d : Nat} {t0 : Nat} {i1 : Int32} {i2 : Int32} {i3 : Int32} {h : ab_HP} {r : (Int32 × ab_HP)} (ht0 : (ab_shp t0).1 = 5) (hf : f_X12_judge t0 i1 i2 i3 h = some r) : ab_T mX12_judge (d + 7) 0 0 0 0 0 [some (va_rf (some t0)), some (.int i1), some (.int i2), some (.int i3), none, none, none] [] h (ab_Pi r.1 r.2) := by
  unfold f_X12_judge at hf
  refine ab_iload_n (pc2 := 1) dX12_judge_0 rfl rfl ?_
  obtain ⟨w1, ew1, hf⟩ := ab_bind hf
  refine ab_callS (pc2 := 4) (st := []) (m_X12_isShelf (d := (d + 5)) ew1) mf_X12_isShelf tw_103 tw_104 dX12_judge_1 rfl (by omega) (Nat.le_refl _) (Nat.le_refl _) rfl (Nat.le_of_ble_eq_true rfl) (fun v u hp => ?_)
  obtain ⟨rfl, rfl, z2⟩ := hp
  show ab_T _ _ _ _ 0 0 4 _ (.int _ :: []) _ _
  refine ab_if_eq (tgt := 21) (pc2 := 7) dX12_judge_4 (by decide) rfl hf (fun c3 hf => ?_) (fun c3 hf => ?_)
  · refine ab_iconst (pc2 := 22) (v := (-1)) dX12_judge_21 rfl ab_k_iconst_m1 ?_
    cases Option.some.inj hf
    exact ab_retI dX12_judge_22 (Or.inl rfl) (Nat.le_refl _) (Nat.le_refl _) ⟨rfl, rfl⟩
  · refine ab_iload_n (pc2 := 8) dX12_judge_7 rfl rfl ?_
    obtain ⟨w4, ew4, hf⟩ := ab_bind hf
    refine ab_callS (pc2 := 11) (st := []) (m_X12_areNails (d := (d + 5)) ew4) mf_X12_areNails tw_223 tw_224 dX12_judge_8 rfl (by omega) (Nat.le_refl _) (Nat.le_refl _) rfl (Nat.le_of_ble_eq_true rfl) (fun v u hp => ?_)
    obtain ⟨rfl, rfl, z5⟩ := hp
    show ab_T _ _ _ _ 0 0 11 _ (.int _ :: []) _ _
    refine ab_if_eq (tgt := 21) (pc2 := 14) dX12_judge_11 (by decide) rfl hf (fun c6 hf => ?_) (fun c6 hf => ?_)
    · refine ab_iconst (pc2 := 22) (v := (-1)) dX12_judge_21 rfl ab_k_iconst_m1 ?_
      cases Option.some.inj hf
      exact ab_retI dX12_judge_22 (Or.inl rfl) (Nat.le_refl _) (Nat.le_refl _) ⟨rfl, rfl⟩
    · refine ab_iload_n (pc2 := 15) dX12_judge_14 rfl rfl ?_
      obtain ⟨w7, ew7, hf⟩ := ab_bind hf
      refine ab_callS (pc2 := 18) (st := []) (m_X12_isShelf (d := (d + 5)) ew7) mf_X12_isShelf tw_103 tw_104 dX12_judge_15 rfl (by omega) (Nat.le_refl _) (Nat.le_refl _) rfl (Nat.le_of_ble_eq_true rfl) (fun v u hp => ?_)
      obtain ⟨rfl, rfl, z8⟩ := hp
      show ab_T _ _ _ _ 0 0 18 _ (.int _ :: []) _ _
      refine ab_if_ne (tgt := 23) (pc2 := 21) dX12_judge_18 (by decide) rfl hf (fun c9 hf => ?_) (fun c9 hf => ?_)
      · refine ab_aload_n (x := _) (pc2 := 24) dX12_judge_23 rfl rfl ?_
        refine ab_iload_n (pc2 := 25) dX12_judge_24 rfl rfl ?_
        obtain ⟨w10, ew10, hf⟩ := ab_bind hf
        refine ab_callV (pc2 := 28) (st := []) rfl ht0 (by decide) (m_X12_wrongList (d := (d + 3)) ht0 ew10) mf_X12_wrongList tw_226 tw_225 ts_X12_wrongList (Or.inl (by decide +kernel)) dX12_judge_25 rfl (by omega) (Nat.le_refl _) (Nat.le_refl _) rfl (Nat.le_of_ble_eq_true rfl) (fun v u hp => ?_)
        obtain ⟨rfl, rfl⟩ := hp
        show ab_T _ _ _ _ 0 0 28 _ (.int _ :: []) _ _
        refine ab_istore (pc2 := 30) (lo2 := [some (va_rf _), some (.int _), some (.int _), some (.int _), some (.int _), none, none]) dX12_judge_28 rfl (by decide) rfl ?_
        refine ab_iload (pc2 := 32) dX12_judge_30 rfl rfl ?_
        refine ab_if_ne (tgt := 43) (pc2 := 35) dX12_judge_32 (by decide) rfl hf (fun c11 hf => ?_) (fun c11 hf => ?_)
        · exact ab_weak (x_X12_judge_b43 ht0 hf) (ab_leS (ab_leS (ab_leS (ab_leS (ab_leS (ab_leN (ab_leN ab_le0)))))))
        · refine ab_aload_n (x := _) (pc2 := 36) dX12_judge_35 rfl rfl ?_
          refine ab_iload_n (pc2 := 37) dX12_judge_36 rfl rfl ?_
          refine ab_iconst (pc2 := 38) (v := (-1)) dX12_judge_37 rfl ab_k_iconst_m1 ?_
          obtain ⟨w12, ew12, hf⟩ := ab_bind hf
          refine ab_callV (pc2 := 41) (st := []) rfl ht0 (by decide) (m_X12_wrongRow (d := (d + 4)) ht0 ew12) mf_X12_wrongRow tw_122 tw_121 ts_X12_wrongRow (Or.inl (by decide +kernel)) dX12_judge_38 rfl (by omega) (Nat.le_refl _) (Nat.le_refl _) rfl (Nat.le_of_ble_eq_true rfl) (fun v u hp => ?_)
          obtain ⟨rfl, rfl⟩ := hp
          show ab_T _ _ _ _ 0 0 41 _ (.int _ :: []) _ _
          refine ab_istore (pc2 := 43) (lo2 := [some (va_rf _), some (.int _), some (.int _), some (.int _), some (.int _), none, none]) dX12_judge_41 rfl (by decide) rfl ?_
          exact ab_weak (x_X12_judge_b43 ht0 hf) (ab_leS (ab_leS (ab_leS (ab_leS (ab_leS (ab_leN (ab_leN ab_le0)))))))
      · refine ab_iconst (pc2 := 22) (v := (-1)) dX12_judge_21 rfl ab_k_iconst_m1 ?_
        cases Option.some.inj hf
        exact ab_retI dX12_judge_22 (Or.inl rfl) (Nat.le_refl _) (Nat.le_refl _) ⟨rfl, rfl⟩
set_option maxHeartbeats 4000000 in
set_option maxRecDepth 100000 in
theorem m_X12_judge {d : Nat} {t0 : Nat} {i1 : Int32} {i2 : Int32} {i3 : Int32} {h : ab_HP} {r : (Int32 × ab_HP)} (ht0 : (ab_shp t0).1 = 5) (hf : f_X12_judge t0 i1 i2 i3 h = some r) : ab_MET mX12_judge (d + 7) 0 0 [va_rf (some t0), .int i1, .int i2, .int i3] h (ab_Pi r.1 r.2) := ab_met (by decide +kernel) (by decide +kernel) (Nat.le_of_ble_eq_true rfl) rfl (x_X12_judge ht0 hf)
set_option maxHeartbeats 4000000 in
set_option maxRecDepth 100000 in
theorem x_X12_image_l2 {d : Nat} {t0 : Nat} {r : (Int32 × ab_HP)} (ht0 : (ab_shp t0).1 = 5) : ∀ (n : Nat) (i1 : Int32) (h : ab_HP), f_X12_image_l2 t0 n i1 h = some r → ab_T mX12_image (d + 0) 0 0 0 0 2 [some (va_rf (some t0)), some (.int i1)] [] h (ab_Pi r.1 r.2) := by
  intro n
  induction n with
  | zero =>
    intro i1 h hf
    rw [f_X12_image_l2] at hf
    cases hf
  | succ n ih =>
    intro i1 h hf
    rw [f_X12_image_l2] at hf
    refine ab_iload_n (pc2 := 3) dX12_image_2 rfl rfl ?_
    refine ab_bipush (pc2 := 5) (v := 47) dX12_image_3 rfl ab_k_bipush_47 ?_
    refine ab_icmp_ge (tgt := 26) (pc2 := 8) dX12_image_5 (by decide) rfl hf (fun c1 hf => ?_) (fun c1 hf => ?_)
    · refine ab_aload_n (x := _) (pc2 := 27) dX12_image_26 rfl rfl ?_
      refine ab_iconst (pc2 := 28) (v := 1) dX12_image_27 rfl ab_k_iconst_1 ?_
      have hf := ab_let_e hf
      refine ab_putI (pc2 := 31) rfl ht0 fa_X12_303 (Or.inr ⟨rfl, (Or.inr rfl)⟩) (fun z => by cases z) dX12_image_28 rfl ?_
      refine ab_aload_n (x := _) (pc2 := 32) dX12_image_31 rfl rfl ?_
      refine ab_getR (pc2 := 35) rfl ht0 fa_X12_9 dX12_image_32 rfl (fun T3 => ?_)
      refine ab_iconst (pc2 := 36) (v := 2) dX12_image_35 rfl ab_k_iconst_2 ?_
      obtain ⟨q4, hq4, hf⟩ := ab_bind hf
      obtain ⟨b5, hf⟩ := ab_guard hf
      refine ab_iald (pc2 := 37) hq4 (T3 q4 hq4) (ab_in_vp b5) dX12_image_36 rfl ?_
      cases Option.some.inj hf
      exact ab_retI dX12_image_37 (Or.inl rfl) (Nat.le_refl _) (Nat.le_refl _) ⟨rfl, rfl⟩
    · refine ab_aload_n (x := _) (pc2 := 9) dX12_image_8 rfl rfl ?_
      refine ab_getR (pc2 := 12) rfl ht0 fa_X12_13 dX12_image_9 rfl (fun T6 => ?_)
      refine ab_iload_n (pc2 := 13) dX12_image_12 rfl rfl ?_
      refine ab_aload_n (x := _) (pc2 := 14) dX12_image_13 rfl rfl ?_
      refine ab_getR (pc2 := 17) rfl ht0 fa_X12_9 dX12_image_14 rfl (fun T7 => ?_)
      refine ab_iload_n (pc2 := 18) dX12_image_17 rfl rfl ?_
      obtain ⟨q8, hq8, hf⟩ := ab_bind hf
      obtain ⟨b9, hf⟩ := ab_guard hf
      refine ab_iald (pc2 := 19) hq8 (T7 q8 hq8) (ab_in_vp b9) dX12_image_18 rfl ?_
      obtain ⟨q10, hq10, hf⟩ := ab_bind hf
      obtain ⟨b11, hf⟩ := ab_guard hf
      have hf := ab_let_e hf
      refine ab_iast (pc2 := 20) hq10 (T6 q10 hq10) (ab_in_vp b11) dX12_image_19 rfl ?_
      refine ab_iinc (pc2 := 23) (v := _ + 1) (lo2 := [some (va_rf _), some (.int _)]) dX12_image_20 rfl rfl rfl (by decide) rfl ?_
      refine ab_goto (tgt := 2) dX12_image_23 (by decide) ?_
      exact ab_weak (ih _ _ hf) (ab_leS (ab_leS ab_le0))
set_option maxHeartbeats 4000000 in
set_option maxRecDepth 100000 in
theorem x_X12_image {d : Nat} {t0 : Nat} {h : ab_HP} {r : (Int32 × ab_HP)} (ht0 : (ab_shp t0).1 = 5) (hf : f_X12_image t0 h = some r) : ab_T mX12_image (d + 0) 0 0 0 0 0 [some (va_rf (some t0)), none] [] h (ab_Pi r.1 r.2) := by
  unfold f_X12_image at hf
  refine ab_iconst (pc2 := 1) (v := 0) dX12_image_0 rfl ab_k_iconst_0 ?_
  refine ab_istore_n (pc2 := 2) (lo2 := [some (va_rf _), some (.int _)]) dX12_image_1 rfl (by decide) rfl ?_
  exact ab_weak (x_X12_image_l2 ht0 _ _ _ hf) (ab_leS (ab_leS ab_le0))
set_option maxHeartbeats 4000000 in
set_option maxRecDepth 100000 in
theorem m_X12_image {d : Nat} {t0 : Nat} {h : ab_HP} {r : (Int32 × ab_HP)} (ht0 : (ab_shp t0).1 = 5) (hf : f_X12_image t0 h = some r) : ab_MET mX12_image (d + 0) 0 0 [va_rf (some t0)] h (ab_Pi r.1 r.2) := ab_met (by decide +kernel) (by decide +kernel) (Nat.le_of_ble_eq_true rfl) rfl (x_X12_image ht0 hf)
set_option maxHeartbeats 4000000 in
set_option maxRecDepth 100000 in
theorem x_X12_restore_l12 {d : Nat} {t0 : Nat} {r : (Int32 × ab_HP)} (ht0 : (ab_shp t0).1 = 5) : ∀ (n : Nat) (i1 : Int32) (h : ab_HP), f_X12_restore_l12 t0 n i1 h = some r → ab_T mX12_restore (d + 0) 0 0 0 0 12 [some (va_rf (some t0)), some (.int i1)] [] h (ab_Pi r.1 r.2) := by
  intro n
  induction n with
  | zero =>
    intro i1 h hf
    rw [f_X12_restore_l12] at hf
    cases hf
  | succ n ih =>
    intro i1 h hf
    rw [f_X12_restore_l12] at hf
    refine ab_iload_n (pc2 := 13) dX12_restore_12 rfl rfl ?_
    refine ab_bipush (pc2 := 15) (v := 47) dX12_restore_13 rfl ab_k_bipush_47 ?_
    refine ab_icmp_ge (tgt := 36) (pc2 := 18) dX12_restore_15 (by decide) rfl hf (fun c2 hf => ?_) (fun c2 hf => ?_)
    · refine ab_aload_n (x := _) (pc2 := 37) dX12_restore_36 rfl rfl ?_
      refine ab_getR (pc2 := 40) rfl ht0 fa_X12_9 dX12_restore_37 rfl (fun T3 => ?_)
      refine ab_iconst (pc2 := 41) (v := 2) dX12_restore_40 rfl ab_k_iconst_2 ?_
      obtain ⟨q4, hq4, hf⟩ := ab_bind hf
      obtain ⟨b5, hf⟩ := ab_guard hf
      refine ab_iald (pc2 := 42) hq4 (T3 q4 hq4) (ab_in_vp b5) dX12_restore_41 rfl ?_
      cases Option.some.inj hf
      exact ab_retI dX12_restore_42 (Or.inl rfl) (Nat.le_refl _) (Nat.le_refl _) ⟨rfl, rfl⟩
    · refine ab_aload_n (x := _) (pc2 := 19) dX12_restore_18 rfl rfl ?_
      refine ab_getR (pc2 := 22) rfl ht0 fa_X12_9 dX12_restore_19 rfl (fun T6 => ?_)
      refine ab_iload_n (pc2 := 23) dX12_restore_22 rfl rfl ?_
      refine ab_aload_n (x := _) (pc2 := 24) dX12_restore_23 rfl rfl ?_
      refine ab_getR (pc2 := 27) rfl ht0 fa_X12_13 dX12_restore_24 rfl (fun T7 => ?_)
      refine ab_iload_n (pc2 := 28) dX12_restore_27 rfl rfl ?_
      obtain ⟨q8, hq8, hf⟩ := ab_bind hf
      obtain ⟨b9, hf⟩ := ab_guard hf
      refine ab_iald (pc2 := 29) hq8 (T7 q8 hq8) (ab_in_vp b9) dX12_restore_28 rfl ?_
      obtain ⟨q10, hq10, hf⟩ := ab_bind hf
      obtain ⟨b11, hf⟩ := ab_guard hf
      have hf := ab_let_e hf
      refine ab_iast (pc2 := 30) hq10 (T6 q10 hq10) (ab_in_vp b11) dX12_restore_29 rfl ?_
      refine ab_iinc (pc2 := 33) (v := _ + 1) (lo2 := [some (va_rf _), some (.int _)]) dX12_restore_30 rfl rfl rfl (by decide) rfl ?_
      refine ab_goto (tgt := 12) dX12_restore_33 (by decide) ?_
      exact ab_weak (ih _ _ hf) (ab_leS (ab_leS ab_le0))
set_option maxHeartbeats 4000000 in
set_option maxRecDepth 100000 in
theorem x_X12_restore {d : Nat} {t0 : Nat} {h : ab_HP} {r : (Int32 × ab_HP)} (ht0 : (ab_shp t0).1 = 5) (hf : f_X12_restore t0 h = some r) : ab_T mX12_restore (d + 0) 0 0 0 0 0 [some (va_rf (some t0)), none] [] h (ab_Pi r.1 r.2) := by
  unfold f_X12_restore at hf
  refine ab_aload_n (x := _) (pc2 := 1) dX12_restore_0 rfl rfl ?_
  refine ab_getI (pc2 := 4) rfl ht0 fa_X12_303 (by decide) dX12_restore_1 rfl ?_
  refine ab_if_ne (tgt := 10) (pc2 := 7) dX12_restore_4 (by decide) rfl hf (fun c1 hf => ?_) (fun c1 hf => ?_)
  · refine ab_iconst (pc2 := 11) (v := 0) dX12_restore_10 rfl ab_k_iconst_0 ?_
    refine ab_istore_n (pc2 := 12) (lo2 := [some (va_rf _), some (.int _)]) dX12_restore_11 rfl (by decide) rfl ?_
    exact ab_weak (x_X12_restore_l12 ht0 _ _ _ hf) (ab_leS (ab_leS ab_le0))
  · refine ab_bipush (pc2 := 9) (v := (-3)) dX12_restore_7 rfl ab_k_bipush_m3 ?_
    cases Option.some.inj hf
    exact ab_retI dX12_restore_9 (Or.inl rfl) (Nat.le_refl _) (Nat.le_refl _) ⟨rfl, rfl⟩
set_option maxHeartbeats 4000000 in
set_option maxRecDepth 100000 in
theorem m_X12_restore {d : Nat} {t0 : Nat} {h : ab_HP} {r : (Int32 × ab_HP)} (ht0 : (ab_shp t0).1 = 5) (hf : f_X12_restore t0 h = some r) : ab_MET mX12_restore (d + 0) 0 0 [va_rf (some t0)] h (ab_Pi r.1 r.2) := ab_met (by decide +kernel) (by decide +kernel) (Nat.le_of_ble_eq_true rfl) rfl (x_X12_restore ht0 hf)
set_option maxHeartbeats 4000000 in
set_option maxRecDepth 100000 in
theorem x_X12_count_l47 {d : Nat} {t0 : Nat} {r : Int32} (ht0 : (ab_shp t0).1 = 5) : ∀ (n : Nat) (i1 : Int32) (i2 : Int32) (i3 : Int32) (h : ab_HP), f_X12_count_l47 t0 n i1 i2 i3 h = some r → ab_T mX12_count (d + 3) 0 0 0 0 47 [some (va_rf (some t0)), some (.int i1), some (.int i2), some (.int i3)] [] h (ab_Pi r h) := by
  intro n
  induction n with
  | zero =>
    intro i1 i2 i3 h hf
    rw [f_X12_count_l47] at hf
    cases hf
  | succ n ih =>
    intro i1 i2 i3 h hf
    rw [f_X12_count_l47] at hf
    refine ab_iload_n (pc2 := 48) dX12_count_47 rfl rfl ?_
    refine ab_aload_n (x := _) (pc2 := 49) dX12_count_48 rfl rfl ?_
    refine ab_getR (pc2 := 52) rfl ht0 fa_X12_9 dX12_count_49 rfl (fun T13 => ?_)
    refine ab_bipush (pc2 := 54) (v := 6) dX12_count_52 rfl ab_k_bipush_6 ?_
    obtain ⟨q14, hq14, hf⟩ := ab_bind hf
    obtain ⟨b15, hf⟩ := ab_guard hf
    refine ab_iald (pc2 := 55) hq14 (T13 q14 hq14) (ab_in_vp b15) dX12_count_54 rfl ?_
    refine ab_icmp_ge (tgt := 140) (pc2 := 58) dX12_count_55 (by decide) rfl hf (fun c16 hf => ?_) (fun c16 hf => ?_)
    · refine ab_iload_n (pc2 := 141) dX12_count_140 rfl rfl ?_
      cases Option.some.inj hf
      exact ab_retI dX12_count_141 (Or.inl rfl) (Nat.le_refl _) (Nat.le_refl _) ⟨rfl, rfl⟩
    · refine ab_iload_n (pc2 := 59) dX12_count_58 rfl rfl ?_
      refine ab_iload_n (pc2 := 60) dX12_count_59 rfl rfl ?_
      refine ab_iconst (pc2 := 61) (v := 5) dX12_count_60 rfl ab_k_iconst_5 ?_
      refine ab_icmp_ne (tgt := 73) (pc2 := 64) dX12_count_61 (by decide) rfl hf (fun c17 hf => ?_) (fun c17 hf => ?_)
      · refine ab_iload_n (pc2 := 74) dX12_count_73 rfl rfl ?_
        refine ab_iconst (pc2 := 75) (v := 2) dX12_count_74 rfl ab_k_iconst_2 ?_
        refine ab_icmp_ne (tgt := 98) (pc2 := 78) dX12_count_75 (by decide) rfl hf (fun c18 hf => ?_) (fun c18 hf => ?_)
        · refine ab_iload_n (pc2 := 99) dX12_count_98 rfl rfl ?_
          refine ab_iconst (pc2 := 100) (v := 3) dX12_count_99 rfl ab_k_iconst_3 ?_
          refine ab_icmp_ne (tgt := 111) (pc2 := 103) dX12_count_100 (by decide) rfl hf (fun c19 hf => ?_) (fun c19 hf => ?_)
          · refine ab_iload_n (pc2 := 112) dX12_count_111 rfl rfl ?_
            refine ab_iconst (pc2 := 113) (v := 4) dX12_count_112 rfl ab_k_iconst_4 ?_
            refine ab_icmp_ne (tgt := 131) (pc2 := 116) dX12_count_113 (by decide) rfl hf (fun c20 hf => ?_) (fun c20 hf => ?_)
            · refine ab_iconst (pc2 := 132) (v := 0) dX12_count_131 rfl ab_k_iconst_0 ?_
              refine ab_iadd (pc2 := 133) dX12_count_132 rfl ?_
              refine ab_istore_n (pc2 := 134) (lo2 := [some (va_rf _), some (.int _), some (.int _), some (.int _)]) dX12_count_133 rfl (by decide) rfl ?_
              refine ab_iinc (pc2 := 137) (v := _ + 1) (lo2 := [some (va_rf _), some (.int _), some (.int _), some (.int _)]) dX12_count_134 rfl rfl rfl (by decide) rfl ?_
              refine ab_goto (tgt := 47) dX12_count_137 (by decide) ?_
              exact ab_weak (ih _ _ _ _ hf) (ab_leS (ab_leS (ab_leS (ab_leS ab_le0))))
            · refine ab_aload_n (x := _) (pc2 := 117) dX12_count_116 rfl rfl ?_
              refine ab_iload_n (pc2 := 118) dX12_count_117 rfl rfl ?_
              refine ab_iconst (pc2 := 119) (v := 0) dX12_count_118 rfl ab_k_iconst_0 ?_
              obtain ⟨w21, ew21, hf⟩ := ab_bind hf
              refine ab_callV (pc2 := 122) (st := [_]) rfl ht0 (by decide) (m_X12_get (d := (d + 2)) ht0 ew21) mf_X12_get tw_129 tw_128 ts_X12_get (Or.inl (by decide +kernel)) dX12_count_119 rfl (by omega) (Nat.le_refl _) (Nat.le_refl _) rfl (Nat.le_of_ble_eq_true rfl) (fun v u hp => ?_)
              obtain ⟨rfl, rfl⟩ := hp
              show ab_T _ _ _ _ 0 0 122 _ (.int _ :: [_]) _ _
              refine ab_bipush (pc2 := 124) (v := 6) dX12_count_122 rfl ab_k_bipush_6 ?_
              refine ab_icmp_ne (tgt := 131) (pc2 := 127) dX12_count_124 (by decide) rfl hf (fun c22 hf => ?_) (fun c22 hf => ?_)
              · refine ab_iconst (pc2 := 132) (v := 0) dX12_count_131 rfl ab_k_iconst_0 ?_
                refine ab_iadd (pc2 := 133) dX12_count_132 rfl ?_
                refine ab_istore_n (pc2 := 134) (lo2 := [some (va_rf _), some (.int _), some (.int _), some (.int _)]) dX12_count_133 rfl (by decide) rfl ?_
                refine ab_iinc (pc2 := 137) (v := _ + 1) (lo2 := [some (va_rf _), some (.int _), some (.int _), some (.int _)]) dX12_count_134 rfl rfl rfl (by decide) rfl ?_
                refine ab_goto (tgt := 47) dX12_count_137 (by decide) ?_
                exact ab_weak (ih _ _ _ _ hf) (ab_leS (ab_leS (ab_leS (ab_leS ab_le0))))
              · refine ab_iconst (pc2 := 128) (v := 1) dX12_count_127 rfl ab_k_iconst_1 ?_
                refine ab_goto (tgt := 132) dX12_count_128 (by decide) ?_
                refine ab_iadd (pc2 := 133) dX12_count_132 rfl ?_
                refine ab_istore_n (pc2 := 134) (lo2 := [some (va_rf _), some (.int _), some (.int _), some (.int _)]) dX12_count_133 rfl (by decide) rfl ?_
                refine ab_iinc (pc2 := 137) (v := _ + 1) (lo2 := [some (va_rf _), some (.int _), some (.int _), some (.int _)]) dX12_count_134 rfl rfl rfl (by decide) rfl ?_
                refine ab_goto (tgt := 47) dX12_count_137 (by decide) ?_
                exact ab_weak (ih _ _ _ _ hf) (ab_leS (ab_leS (ab_leS (ab_leS ab_le0))))
          · refine ab_aload_n (x := _) (pc2 := 104) dX12_count_103 rfl rfl ?_
            refine ab_iload_n (pc2 := 105) dX12_count_104 rfl rfl ?_
            obtain ⟨w23, ew23, hf⟩ := ab_bind hf
            refine ab_callV (pc2 := 108) (st := [_]) rfl ht0 (by decide) (m_X12_isKept (d := (d + 1)) ht0 ew23) mf_X12_isKept tw_136 tw_135 ts_X12_isKept (Or.inl (by decide +kernel)) dX12_count_105 rfl (by omega) (Nat.le_refl _) (Nat.le_refl _) rfl (Nat.le_of_ble_eq_true rfl) (fun v u hp => ?_)
            obtain ⟨rfl, rfl, z24⟩ := hp
            show ab_T _ _ _ _ 0 0 108 _ (.int _ :: [_]) _ _
            refine ab_if_ne (tgt := 127) (pc2 := 111) dX12_count_108 (by decide) rfl hf (fun c25 hf => ?_) (fun c25 hf => ?_)
            · refine ab_iconst (pc2 := 128) (v := 1) dX12_count_127 rfl ab_k_iconst_1 ?_
              refine ab_goto (tgt := 132) dX12_count_128 (by decide) ?_
              refine ab_iadd (pc2 := 133) dX12_count_132 rfl ?_
              refine ab_istore_n (pc2 := 134) (lo2 := [some (va_rf _), some (.int _), some (.int _), some (.int _)]) dX12_count_133 rfl (by decide) rfl ?_
              refine ab_iinc (pc2 := 137) (v := _ + 1) (lo2 := [some (va_rf _), some (.int _), some (.int _), some (.int _)]) dX12_count_134 rfl rfl rfl (by decide) rfl ?_
              refine ab_goto (tgt := 47) dX12_count_137 (by decide) ?_
              exact ab_weak (ih _ _ _ _ hf) (ab_leS (ab_leS (ab_leS (ab_leS ab_le0))))
            · refine ab_iload_n (pc2 := 112) dX12_count_111 rfl rfl ?_
              refine ab_iconst (pc2 := 113) (v := 4) dX12_count_112 rfl ab_k_iconst_4 ?_
              refine ab_icmp_ne (tgt := 131) (pc2 := 116) dX12_count_113 (by decide) rfl hf (fun c26 hf => ?_) (fun c26 hf => ?_)
              · refine ab_iconst (pc2 := 132) (v := 0) dX12_count_131 rfl ab_k_iconst_0 ?_
                refine ab_iadd (pc2 := 133) dX12_count_132 rfl ?_
                refine ab_istore_n (pc2 := 134) (lo2 := [some (va_rf _), some (.int _), some (.int _), some (.int _)]) dX12_count_133 rfl (by decide) rfl ?_
                refine ab_iinc (pc2 := 137) (v := _ + 1) (lo2 := [some (va_rf _), some (.int _), some (.int _), some (.int _)]) dX12_count_134 rfl rfl rfl (by decide) rfl ?_
                refine ab_goto (tgt := 47) dX12_count_137 (by decide) ?_
                exact ab_weak (ih _ _ _ _ hf) (ab_leS (ab_leS (ab_leS (ab_leS ab_le0))))
              · refine ab_aload_n (x := _) (pc2 := 117) dX12_count_116 rfl rfl ?_
                refine ab_iload_n (pc2 := 118) dX12_count_117 rfl rfl ?_
                refine ab_iconst (pc2 := 119) (v := 0) dX12_count_118 rfl ab_k_iconst_0 ?_
                obtain ⟨w27, ew27, hf⟩ := ab_bind hf
                refine ab_callV (pc2 := 122) (st := [_]) rfl ht0 (by decide) (m_X12_get (d := (d + 2)) ht0 ew27) mf_X12_get tw_129 tw_128 ts_X12_get (Or.inl (by decide +kernel)) dX12_count_119 rfl (by omega) (Nat.le_refl _) (Nat.le_refl _) rfl (Nat.le_of_ble_eq_true rfl) (fun v u hp => ?_)
                obtain ⟨rfl, rfl⟩ := hp
                show ab_T _ _ _ _ 0 0 122 _ (.int _ :: [_]) _ _
                refine ab_bipush (pc2 := 124) (v := 6) dX12_count_122 rfl ab_k_bipush_6 ?_
                refine ab_icmp_ne (tgt := 131) (pc2 := 127) dX12_count_124 (by decide) rfl hf (fun c28 hf => ?_) (fun c28 hf => ?_)
                · refine ab_iconst (pc2 := 132) (v := 0) dX12_count_131 rfl ab_k_iconst_0 ?_
                  refine ab_iadd (pc2 := 133) dX12_count_132 rfl ?_
                  refine ab_istore_n (pc2 := 134) (lo2 := [some (va_rf _), some (.int _), some (.int _), some (.int _)]) dX12_count_133 rfl (by decide) rfl ?_
                  refine ab_iinc (pc2 := 137) (v := _ + 1) (lo2 := [some (va_rf _), some (.int _), some (.int _), some (.int _)]) dX12_count_134 rfl rfl rfl (by decide) rfl ?_
                  refine ab_goto (tgt := 47) dX12_count_137 (by decide) ?_
                  exact ab_weak (ih _ _ _ _ hf) (ab_leS (ab_leS (ab_leS (ab_leS ab_le0))))
                · refine ab_iconst (pc2 := 128) (v := 1) dX12_count_127 rfl ab_k_iconst_1 ?_
                  refine ab_goto (tgt := 132) dX12_count_128 (by decide) ?_
                  refine ab_iadd (pc2 := 133) dX12_count_132 rfl ?_
                  refine ab_istore_n (pc2 := 134) (lo2 := [some (va_rf _), some (.int _), some (.int _), some (.int _)]) dX12_count_133 rfl (by decide) rfl ?_
                  refine ab_iinc (pc2 := 137) (v := _ + 1) (lo2 := [some (va_rf _), some (.int _), some (.int _), some (.int _)]) dX12_count_134 rfl rfl rfl (by decide) rfl ?_
                  refine ab_goto (tgt := 47) dX12_count_137 (by decide) ?_
                  exact ab_weak (ih _ _ _ _ hf) (ab_leS (ab_leS (ab_leS (ab_leS ab_le0))))
        · refine ab_aload_n (x := _) (pc2 := 79) dX12_count_78 rfl rfl ?_
          refine ab_iload_n (pc2 := 80) dX12_count_79 rfl rfl ?_
          refine ab_aload_n (x := _) (pc2 := 81) dX12_count_80 rfl rfl ?_
          refine ab_getR (pc2 := 84) rfl ht0 fa_X12_9 dX12_count_81 rfl (fun T29 => ?_)
          refine ab_iconst (pc2 := 85) (v := 0) dX12_count_84 rfl ab_k_iconst_0 ?_
          obtain ⟨q30, hq30, hf⟩ := ab_bind hf
          obtain ⟨b31, hf⟩ := ab_guard hf
          refine ab_iald (pc2 := 86) hq30 (T29 q30 hq30) (ab_in_vp b31) dX12_count_85 rfl ?_
          refine ab_aload_n (x := _) (pc2 := 87) dX12_count_86 rfl rfl ?_
          refine ab_getR (pc2 := 90) rfl ht0 fa_X12_9 dX12_count_87 rfl (fun T32 => ?_)
          refine ab_iconst (pc2 := 91) (v := 1) dX12_count_90 rfl ab_k_iconst_1 ?_
          obtain ⟨q33, hq33, hf⟩ := ab_bind hf
          obtain ⟨b34, hf⟩ := ab_guard hf
          refine ab_iald (pc2 := 92) hq33 (T32 q33 hq33) (ab_in_vp b34) dX12_count_91 rfl ?_
          obtain ⟨w35, ew35, hf⟩ := ab_bind hf
          refine ab_callV (pc2 := 95) (st := [_]) rfl ht0 (by decide) (m_X12_mayBy (d := (d + 0)) ht0 ew35) mf_X12_mayBy tw_153 tw_152 ts_X12_mayBy (Or.inl (by decide +kernel)) dX12_count_92 rfl (by omega) (Nat.le_refl _) (Nat.le_refl _) rfl (Nat.le_of_ble_eq_true rfl) (fun v u hp => ?_)
          obtain ⟨rfl, rfl, z36⟩ := hp
          show ab_T _ _ _ _ 0 0 95 _ (.int _ :: [_]) _ _
          refine ab_if_ne (tgt := 127) (pc2 := 98) dX12_count_95 (by decide) rfl hf (fun c37 hf => ?_) (fun c37 hf => ?_)
          · refine ab_iconst (pc2 := 128) (v := 1) dX12_count_127 rfl ab_k_iconst_1 ?_
            refine ab_goto (tgt := 132) dX12_count_128 (by decide) ?_
            refine ab_iadd (pc2 := 133) dX12_count_132 rfl ?_
            refine ab_istore_n (pc2 := 134) (lo2 := [some (va_rf _), some (.int _), some (.int _), some (.int _)]) dX12_count_133 rfl (by decide) rfl ?_
            refine ab_iinc (pc2 := 137) (v := _ + 1) (lo2 := [some (va_rf _), some (.int _), some (.int _), some (.int _)]) dX12_count_134 rfl rfl rfl (by decide) rfl ?_
            refine ab_goto (tgt := 47) dX12_count_137 (by decide) ?_
            exact ab_weak (ih _ _ _ _ hf) (ab_leS (ab_leS (ab_leS (ab_leS ab_le0))))
          · refine ab_iload_n (pc2 := 99) dX12_count_98 rfl rfl ?_
            refine ab_iconst (pc2 := 100) (v := 3) dX12_count_99 rfl ab_k_iconst_3 ?_
            refine ab_icmp_ne (tgt := 111) (pc2 := 103) dX12_count_100 (by decide) rfl hf (fun c38 hf => ?_) (fun c38 hf => ?_)
            · refine ab_iload_n (pc2 := 112) dX12_count_111 rfl rfl ?_
              refine ab_iconst (pc2 := 113) (v := 4) dX12_count_112 rfl ab_k_iconst_4 ?_
              refine ab_icmp_ne (tgt := 131) (pc2 := 116) dX12_count_113 (by decide) rfl hf (fun c39 hf => ?_) (fun c39 hf => ?_)
              · refine ab_iconst (pc2 := 132) (v := 0) dX12_count_131 rfl ab_k_iconst_0 ?_
                refine ab_iadd (pc2 := 133) dX12_count_132 rfl ?_
                refine ab_istore_n (pc2 := 134) (lo2 := [some (va_rf _), some (.int _), some (.int _), some (.int _)]) dX12_count_133 rfl (by decide) rfl ?_
                refine ab_iinc (pc2 := 137) (v := _ + 1) (lo2 := [some (va_rf _), some (.int _), some (.int _), some (.int _)]) dX12_count_134 rfl rfl rfl (by decide) rfl ?_
                refine ab_goto (tgt := 47) dX12_count_137 (by decide) ?_
                exact ab_weak (ih _ _ _ _ hf) (ab_leS (ab_leS (ab_leS (ab_leS ab_le0))))
              · refine ab_aload_n (x := _) (pc2 := 117) dX12_count_116 rfl rfl ?_
                refine ab_iload_n (pc2 := 118) dX12_count_117 rfl rfl ?_
                refine ab_iconst (pc2 := 119) (v := 0) dX12_count_118 rfl ab_k_iconst_0 ?_
                obtain ⟨w40, ew40, hf⟩ := ab_bind hf
                refine ab_callV (pc2 := 122) (st := [_]) rfl ht0 (by decide) (m_X12_get (d := (d + 2)) ht0 ew40) mf_X12_get tw_129 tw_128 ts_X12_get (Or.inl (by decide +kernel)) dX12_count_119 rfl (by omega) (Nat.le_refl _) (Nat.le_refl _) rfl (Nat.le_of_ble_eq_true rfl) (fun v u hp => ?_)
                obtain ⟨rfl, rfl⟩ := hp
                show ab_T _ _ _ _ 0 0 122 _ (.int _ :: [_]) _ _
                refine ab_bipush (pc2 := 124) (v := 6) dX12_count_122 rfl ab_k_bipush_6 ?_
                refine ab_icmp_ne (tgt := 131) (pc2 := 127) dX12_count_124 (by decide) rfl hf (fun c41 hf => ?_) (fun c41 hf => ?_)
                · refine ab_iconst (pc2 := 132) (v := 0) dX12_count_131 rfl ab_k_iconst_0 ?_
                  refine ab_iadd (pc2 := 133) dX12_count_132 rfl ?_
                  refine ab_istore_n (pc2 := 134) (lo2 := [some (va_rf _), some (.int _), some (.int _), some (.int _)]) dX12_count_133 rfl (by decide) rfl ?_
                  refine ab_iinc (pc2 := 137) (v := _ + 1) (lo2 := [some (va_rf _), some (.int _), some (.int _), some (.int _)]) dX12_count_134 rfl rfl rfl (by decide) rfl ?_
                  refine ab_goto (tgt := 47) dX12_count_137 (by decide) ?_
                  exact ab_weak (ih _ _ _ _ hf) (ab_leS (ab_leS (ab_leS (ab_leS ab_le0))))
                · refine ab_iconst (pc2 := 128) (v := 1) dX12_count_127 rfl ab_k_iconst_1 ?_
                  refine ab_goto (tgt := 132) dX12_count_128 (by decide) ?_
                  refine ab_iadd (pc2 := 133) dX12_count_132 rfl ?_
                  refine ab_istore_n (pc2 := 134) (lo2 := [some (va_rf _), some (.int _), some (.int _), some (.int _)]) dX12_count_133 rfl (by decide) rfl ?_
                  refine ab_iinc (pc2 := 137) (v := _ + 1) (lo2 := [some (va_rf _), some (.int _), some (.int _), some (.int _)]) dX12_count_134 rfl rfl rfl (by decide) rfl ?_
                  refine ab_goto (tgt := 47) dX12_count_137 (by decide) ?_
                  exact ab_weak (ih _ _ _ _ hf) (ab_leS (ab_leS (ab_leS (ab_leS ab_le0))))
            · refine ab_aload_n (x := _) (pc2 := 104) dX12_count_103 rfl rfl ?_
              refine ab_iload_n (pc2 := 105) dX12_count_104 rfl rfl ?_
              obtain ⟨w42, ew42, hf⟩ := ab_bind hf
              refine ab_callV (pc2 := 108) (st := [_]) rfl ht0 (by decide) (m_X12_isKept (d := (d + 1)) ht0 ew42) mf_X12_isKept tw_136 tw_135 ts_X12_isKept (Or.inl (by decide +kernel)) dX12_count_105 rfl (by omega) (Nat.le_refl _) (Nat.le_refl _) rfl (Nat.le_of_ble_eq_true rfl) (fun v u hp => ?_)
              obtain ⟨rfl, rfl, z43⟩ := hp
              show ab_T _ _ _ _ 0 0 108 _ (.int _ :: [_]) _ _
              refine ab_if_ne (tgt := 127) (pc2 := 111) dX12_count_108 (by decide) rfl hf (fun c44 hf => ?_) (fun c44 hf => ?_)
              · refine ab_iconst (pc2 := 128) (v := 1) dX12_count_127 rfl ab_k_iconst_1 ?_
                refine ab_goto (tgt := 132) dX12_count_128 (by decide) ?_
                refine ab_iadd (pc2 := 133) dX12_count_132 rfl ?_
                refine ab_istore_n (pc2 := 134) (lo2 := [some (va_rf _), some (.int _), some (.int _), some (.int _)]) dX12_count_133 rfl (by decide) rfl ?_
                refine ab_iinc (pc2 := 137) (v := _ + 1) (lo2 := [some (va_rf _), some (.int _), some (.int _), some (.int _)]) dX12_count_134 rfl rfl rfl (by decide) rfl ?_
                refine ab_goto (tgt := 47) dX12_count_137 (by decide) ?_
                exact ab_weak (ih _ _ _ _ hf) (ab_leS (ab_leS (ab_leS (ab_leS ab_le0))))
              · refine ab_iload_n (pc2 := 112) dX12_count_111 rfl rfl ?_
                refine ab_iconst (pc2 := 113) (v := 4) dX12_count_112 rfl ab_k_iconst_4 ?_
                refine ab_icmp_ne (tgt := 131) (pc2 := 116) dX12_count_113 (by decide) rfl hf (fun c45 hf => ?_) (fun c45 hf => ?_)
                · refine ab_iconst (pc2 := 132) (v := 0) dX12_count_131 rfl ab_k_iconst_0 ?_
                  refine ab_iadd (pc2 := 133) dX12_count_132 rfl ?_
                  refine ab_istore_n (pc2 := 134) (lo2 := [some (va_rf _), some (.int _), some (.int _), some (.int _)]) dX12_count_133 rfl (by decide) rfl ?_
                  refine ab_iinc (pc2 := 137) (v := _ + 1) (lo2 := [some (va_rf _), some (.int _), some (.int _), some (.int _)]) dX12_count_134 rfl rfl rfl (by decide) rfl ?_
                  refine ab_goto (tgt := 47) dX12_count_137 (by decide) ?_
                  exact ab_weak (ih _ _ _ _ hf) (ab_leS (ab_leS (ab_leS (ab_leS ab_le0))))
                · refine ab_aload_n (x := _) (pc2 := 117) dX12_count_116 rfl rfl ?_
                  refine ab_iload_n (pc2 := 118) dX12_count_117 rfl rfl ?_
                  refine ab_iconst (pc2 := 119) (v := 0) dX12_count_118 rfl ab_k_iconst_0 ?_
                  obtain ⟨w46, ew46, hf⟩ := ab_bind hf
                  refine ab_callV (pc2 := 122) (st := [_]) rfl ht0 (by decide) (m_X12_get (d := (d + 2)) ht0 ew46) mf_X12_get tw_129 tw_128 ts_X12_get (Or.inl (by decide +kernel)) dX12_count_119 rfl (by omega) (Nat.le_refl _) (Nat.le_refl _) rfl (Nat.le_of_ble_eq_true rfl) (fun v u hp => ?_)
                  obtain ⟨rfl, rfl⟩ := hp
                  show ab_T _ _ _ _ 0 0 122 _ (.int _ :: [_]) _ _
                  refine ab_bipush (pc2 := 124) (v := 6) dX12_count_122 rfl ab_k_bipush_6 ?_
                  refine ab_icmp_ne (tgt := 131) (pc2 := 127) dX12_count_124 (by decide) rfl hf (fun c47 hf => ?_) (fun c47 hf => ?_)
                  · refine ab_iconst (pc2 := 132) (v := 0) dX12_count_131 rfl ab_k_iconst_0 ?_
                    refine ab_iadd (pc2 := 133) dX12_count_132 rfl ?_
                    refine ab_istore_n (pc2 := 134) (lo2 := [some (va_rf _), some (.int _), some (.int _), some (.int _)]) dX12_count_133 rfl (by decide) rfl ?_
                    refine ab_iinc (pc2 := 137) (v := _ + 1) (lo2 := [some (va_rf _), some (.int _), some (.int _), some (.int _)]) dX12_count_134 rfl rfl rfl (by decide) rfl ?_
                    refine ab_goto (tgt := 47) dX12_count_137 (by decide) ?_
                    exact ab_weak (ih _ _ _ _ hf) (ab_leS (ab_leS (ab_leS (ab_leS ab_le0))))
                  · refine ab_iconst (pc2 := 128) (v := 1) dX12_count_127 rfl ab_k_iconst_1 ?_
                    refine ab_goto (tgt := 132) dX12_count_128 (by decide) ?_
                    refine ab_iadd (pc2 := 133) dX12_count_132 rfl ?_
                    refine ab_istore_n (pc2 := 134) (lo2 := [some (va_rf _), some (.int _), some (.int _), some (.int _)]) dX12_count_133 rfl (by decide) rfl ?_
                    refine ab_iinc (pc2 := 137) (v := _ + 1) (lo2 := [some (va_rf _), some (.int _), some (.int _), some (.int _)]) dX12_count_134 rfl rfl rfl (by decide) rfl ?_
                    refine ab_goto (tgt := 47) dX12_count_137 (by decide) ?_
                    exact ab_weak (ih _ _ _ _ hf) (ab_leS (ab_leS (ab_leS (ab_leS ab_le0))))
      · refine ab_aload_n (x := _) (pc2 := 65) dX12_count_64 rfl rfl ?_
        refine ab_iload_n (pc2 := 66) dX12_count_65 rfl rfl ?_
        refine ab_iconst (pc2 := 67) (v := 3) dX12_count_66 rfl ab_k_iconst_3 ?_
        obtain ⟨w48, ew48, hf⟩ := ab_bind hf
        refine ab_callV (pc2 := 70) (st := [_]) rfl ht0 (by decide) (m_X12_get (d := (d + 2)) ht0 ew48) mf_X12_get tw_129 tw_128 ts_X12_get (Or.inl (by decide +kernel)) dX12_count_67 rfl (by omega) (Nat.le_refl _) (Nat.le_refl _) rfl (Nat.le_of_ble_eq_true rfl) (fun v u hp => ?_)
        obtain ⟨rfl, rfl⟩ := hp
        show ab_T _ _ _ _ 0 0 70 _ (.int _ :: [_]) _ _
        refine ab_goto (tgt := 132) dX12_count_70 (by decide) ?_
        refine ab_iadd (pc2 := 133) dX12_count_132 rfl ?_
        refine ab_istore_n (pc2 := 134) (lo2 := [some (va_rf _), some (.int _), some (.int _), some (.int _)]) dX12_count_133 rfl (by decide) rfl ?_
        refine ab_iinc (pc2 := 137) (v := _ + 1) (lo2 := [some (va_rf _), some (.int _), some (.int _), some (.int _)]) dX12_count_134 rfl rfl rfl (by decide) rfl ?_
        refine ab_goto (tgt := 47) dX12_count_137 (by decide) ?_
        exact ab_weak (ih _ _ _ _ hf) (ab_leS (ab_leS (ab_leS (ab_leS ab_le0))))
set_option maxHeartbeats 4000000 in
set_option maxRecDepth 100000 in
theorem x_X12_count {d : Nat} {t0 : Nat} {i1 : Int32} {h : ab_HP} {r : Int32} (ht0 : (ab_shp t0).1 = 5) (hf : f_X12_count t0 i1 h = some r) : ab_T mX12_count (d + 3) 0 0 0 0 0 [some (va_rf (some t0)), some (.int i1), none, none] [] h (ab_Pi r h) := by
  unfold f_X12_count at hf
  refine ab_iconst (pc2 := 1) (v := 0) dX12_count_0 rfl ab_k_iconst_0 ?_
  refine ab_istore_n (pc2 := 2) (lo2 := [some (va_rf _), some (.int _), some (.int _), none]) dX12_count_1 rfl (by decide) rfl ?_
  refine ab_iload_n (pc2 := 3) dX12_count_2 rfl rfl ?_
  refine ab_if_ne (tgt := 14) (pc2 := 6) dX12_count_3 (by decide) rfl hf (fun c1 hf => ?_) (fun c1 hf => ?_)
  · refine ab_iload_n (pc2 := 15) dX12_count_14 rfl rfl ?_
    refine ab_iconst (pc2 := 16) (v := 1) dX12_count_15 rfl ab_k_iconst_1 ?_
    refine ab_icmp_ne (tgt := 29) (pc2 := 19) dX12_count_16 (by decide) rfl hf (fun c2 hf => ?_) (fun c2 hf => ?_)
    · refine ab_iload_n (pc2 := 30) dX12_count_29 rfl rfl ?_
      refine ab_i2l (pc2 := 31) dX12_count_30 rfl ?_
      refine ab_ldc2 (pc2 := 34) (v := 2) dX12_count_31 rfl tw_143 ?_
      refine ab_ldc2 (pc2 := 37) (v := 5) dX12_count_34 rfl tw_327 ?_
      obtain ⟨w3, ew3, hf⟩ := ab_bind hf
      refine ab_callS (pc2 := 40) (st := []) (m_X12_isIn (d := (d + 2)) ew3) mf_X12_isIn tw_101 tw_102 dX12_count_37 rfl (by omega) (Nat.le_refl _) (Nat.le_refl _) rfl (Nat.le_of_ble_eq_true rfl) (fun v u hp => ?_)
      obtain ⟨rfl, rfl, z4⟩ := hp
      show ab_T _ _ _ _ 0 0 40 _ (.int _ :: []) _ _
      refine ab_if_ne (tgt := 45) (pc2 := 43) dX12_count_40 (by decide) rfl hf (fun c5 hf => ?_) (fun c5 hf => ?_)
      · refine ab_iconst (pc2 := 46) (v := 0) dX12_count_45 rfl ab_k_iconst_0 ?_
        refine ab_istore_n (pc2 := 47) (lo2 := [some (va_rf _), some (.int _), some (.int _), some (.int _)]) dX12_count_46 rfl (by decide) rfl ?_
        exact ab_weak (x_X12_count_l47 ht0 _ _ _ _ _ hf) (ab_leS (ab_leS (ab_leS (ab_leS ab_le0))))
      · refine ab_iconst (pc2 := 44) (v := (-1)) dX12_count_43 rfl ab_k_iconst_m1 ?_
        cases Option.some.inj hf
        exact ab_retI dX12_count_44 (Or.inl rfl) (Nat.le_refl _) (Nat.le_refl _) ⟨rfl, rfl⟩
    · refine ab_aload_n (x := _) (pc2 := 20) dX12_count_19 rfl rfl ?_
      refine ab_getR (pc2 := 23) rfl ht0 fa_X12_9 dX12_count_20 rfl (fun T6 => ?_)
      refine ab_iconst (pc2 := 24) (v := 0) dX12_count_23 rfl ab_k_iconst_0 ?_
      obtain ⟨q7, hq7, hf⟩ := ab_bind hf
      obtain ⟨b8, hf⟩ := ab_guard hf
      refine ab_iald (pc2 := 25) hq7 (T6 q7 hq7) (ab_in_vp b8) dX12_count_24 rfl ?_
      obtain ⟨w9, ew9, hf⟩ := ab_bind hf
      refine ab_callS (pc2 := 28) (st := []) (m_X12_bits (d := (d + 2)) ew9) mf_X12_bits tw_246 tw_247 dX12_count_25 rfl (by omega) (Nat.le_refl _) (Nat.le_refl _) rfl (Nat.le_of_ble_eq_true rfl) (fun v u hp => ?_)
      obtain ⟨rfl, rfl⟩ := hp
      show ab_T _ _ _ _ 0 0 28 _ (.int _ :: []) _ _
      cases Option.some.inj hf
      exact ab_retI dX12_count_28 (Or.inl rfl) (Nat.le_refl _) (Nat.le_refl _) ⟨rfl, rfl⟩
  · refine ab_aload_n (x := _) (pc2 := 7) dX12_count_6 rfl rfl ?_
    refine ab_getR (pc2 := 10) rfl ht0 fa_X12_9 dX12_count_7 rfl (fun T10 => ?_)
    refine ab_bipush (pc2 := 12) (v := 6) dX12_count_10 rfl ab_k_bipush_6 ?_
    obtain ⟨q11, hq11, hf⟩ := ab_bind hf
    obtain ⟨b12, hf⟩ := ab_guard hf
    refine ab_iald (pc2 := 13) hq11 (T10 q11 hq11) (ab_in_vp b12) dX12_count_12 rfl ?_
    cases Option.some.inj hf
    exact ab_retI dX12_count_13 (Or.inl rfl) (Nat.le_refl _) (Nat.le_refl _) ⟨rfl, rfl⟩
set_option maxHeartbeats 4000000 in
set_option maxRecDepth 100000 in
theorem m_X12_count {d : Nat} {t0 : Nat} {i1 : Int32} {h : ab_HP} {r : Int32} (ht0 : (ab_shp t0).1 = 5) (hf : f_X12_count t0 i1 h = some r) : ab_MET mX12_count (d + 3) 0 0 [va_rf (some t0), .int i1] h (ab_Pi r h) := ab_met (by decide +kernel) (by decide +kernel) (Nat.le_of_ble_eq_true rfl) rfl (x_X12_count ht0 hf)
set_option maxHeartbeats 4000000 in
set_option maxRecDepth 100000 in
theorem x_X12_careOf {d : Nat} {t0 : Nat} {i1 : Int32} {h : ab_HP} {r : Int32} (ht0 : (ab_shp t0).1 = 5) (hf : f_X12_careOf t0 i1 h = some r) : ab_T mX12_careOf (d + 1) 0 0 0 0 0 [some (va_rf (some t0)), some (.int i1), none] [] h (ab_Pi r h) := by
  unfold f_X12_careOf at hf
  refine ab_aload_n (x := _) (pc2 := 1) dX12_careOf_0 rfl rfl ?_
  refine ab_iload_n (pc2 := 2) dX12_careOf_1 rfl rfl ?_
  refine ab_iconst (pc2 := 3) (v := 4) dX12_careOf_2 rfl ab_k_iconst_4 ?_
  obtain ⟨w1, ew1, hf⟩ := ab_bind hf
  refine ab_callV (pc2 := 6) (st := []) rfl ht0 (by decide) (m_X12_get (d := (d + 0)) ht0 ew1) mf_X12_get tw_129 tw_128 ts_X12_get (Or.inl (by decide +kernel)) dX12_careOf_3 rfl (by omega) (Nat.le_refl _) (Nat.le_refl _) rfl (Nat.le_of_ble_eq_true rfl) (fun v u hp => ?_)
  obtain ⟨rfl, rfl⟩ := hp
  show ab_T _ _ _ _ 0 0 6 _ (.int _ :: []) _ _
  refine ab_istore_n (pc2 := 7) (lo2 := [some (va_rf _), some (.int _), some (.int _)]) dX12_careOf_6 rfl (by decide) rfl ?_
  refine ab_aload_n (x := _) (pc2 := 8) dX12_careOf_7 rfl rfl ?_
  refine ab_iload_n (pc2 := 9) dX12_careOf_8 rfl rfl ?_
  refine ab_iconst (pc2 := 10) (v := 0) dX12_careOf_9 rfl ab_k_iconst_0 ?_
  obtain ⟨w2, ew2, hf⟩ := ab_bind hf
  refine ab_callV (pc2 := 13) (st := []) rfl ht0 (by decide) (m_X12_get (d := (d + 0)) ht0 ew2) mf_X12_get tw_129 tw_128 ts_X12_get (Or.inl (by decide +kernel)) dX12_careOf_10 rfl (by omega) (Nat.le_refl _) (Nat.le_refl _) rfl (Nat.le_of_ble_eq_true rfl) (fun v u hp => ?_)
  obtain ⟨rfl, rfl⟩ := hp
  show ab_T _ _ _ _ 0 0 13 _ (.int _ :: []) _ _
  rcases ab_cas hf with ⟨s3, hf⟩ | ⟨s3, hf⟩
  · refine ab_tswK (tgt := 56) dX12_careOf_13 s3 (by decide) (by decide) (by decide +kernel) (by decide) ?_
    refine ab_bipush (pc2 := 58) (v := 12) dX12_careOf_56 rfl ab_k_bipush_12 ?_
    cases Option.some.inj hf
    exact ab_retI dX12_careOf_58 (Or.inl rfl) (Nat.le_refl _) (Nat.le_refl _) ⟨rfl, rfl⟩
  rcases ab_cas hf with ⟨s4, hf⟩ | ⟨s4, hf⟩
  · refine ab_tswK (tgt := 59) dX12_careOf_13 s4 (by decide) (by decide) (by decide +kernel) (by decide) ?_
    refine ab_iconst (pc2 := 60) (v := 4) dX12_careOf_59 rfl ab_k_iconst_4 ?_
    refine ab_aload_n (x := _) (pc2 := 61) dX12_careOf_60 rfl rfl ?_
    refine ab_iload_n (pc2 := 62) dX12_careOf_61 rfl rfl ?_
    refine ab_iconst (pc2 := 63) (v := 3) dX12_careOf_62 rfl ab_k_iconst_3 ?_
    obtain ⟨w5, ew5, hf⟩ := ab_bind hf
    refine ab_callV (pc2 := 66) (st := [_]) rfl ht0 (by decide) (m_X12_get (d := (d + 0)) ht0 ew5) mf_X12_get tw_129 tw_128 ts_X12_get (Or.inl (by decide +kernel)) dX12_careOf_63 rfl (by omega) (Nat.le_refl _) (Nat.le_refl _) rfl (Nat.le_of_ble_eq_true rfl) (fun v u hp => ?_)
    obtain ⟨rfl, rfl⟩ := hp
    show ab_T _ _ _ _ 0 0 66 _ (.int _ :: [_]) _ _
    refine ab_iadd (pc2 := 67) dX12_careOf_66 rfl ?_
    cases Option.some.inj hf
    exact ab_retI dX12_careOf_67 (Or.inl rfl) (Nat.le_refl _) (Nat.le_refl _) ⟨rfl, rfl⟩
  rcases ab_cas hf with ⟨s6, hf⟩ | ⟨s6, hf⟩
  · refine ab_tswK (tgt := 68) dX12_careOf_13 s6 (by decide) (by decide) (by decide +kernel) (by decide) ?_
    refine ab_iconst (pc2 := 69) (v := 4) dX12_careOf_68 rfl ab_k_iconst_4 ?_
    refine ab_aload_n (x := _) (pc2 := 70) dX12_careOf_69 rfl rfl ?_
    refine ab_iload_n (pc2 := 71) dX12_careOf_70 rfl rfl ?_
    refine ab_iconst (pc2 := 72) (v := 3) dX12_careOf_71 rfl ab_k_iconst_3 ?_
    obtain ⟨w7, ew7, hf⟩ := ab_bind hf
    refine ab_callV (pc2 := 75) (st := [_]) rfl ht0 (by decide) (m_X12_get (d := (d + 0)) ht0 ew7) mf_X12_get tw_129 tw_128 ts_X12_get (Or.inl (by decide +kernel)) dX12_careOf_72 rfl (by omega) (Nat.le_refl _) (Nat.le_refl _) rfl (Nat.le_of_ble_eq_true rfl) (fun v u hp => ?_)
    obtain ⟨rfl, rfl⟩ := hp
    show ab_T _ _ _ _ 0 0 75 _ (.int _ :: [_]) _ _
    refine ab_iadd (pc2 := 76) dX12_careOf_75 rfl ?_
    refine ab_iload_n (pc2 := 77) dX12_careOf_76 rfl rfl ?_
    refine ab_isub (pc2 := 78) dX12_careOf_77 rfl ?_
    cases Option.some.inj hf
    exact ab_retI dX12_careOf_78 (Or.inl rfl) (Nat.le_refl _) (Nat.le_refl _) ⟨rfl, rfl⟩
  rcases ab_cas hf with ⟨s8, hf⟩ | ⟨s8, hf⟩
  · refine ab_tswK (tgt := 79) dX12_careOf_13 s8 (by decide) (by decide) (by decide +kernel) (by decide) ?_
    refine ab_iconst (pc2 := 80) (v := 1) dX12_careOf_79 rfl ab_k_iconst_1 ?_
    cases Option.some.inj hf
    exact ab_retI dX12_careOf_80 (Or.inl rfl) (Nat.le_refl _) (Nat.le_refl _) ⟨rfl, rfl⟩
  rcases ab_cas hf with ⟨s9, hf⟩ | ⟨s9, hf⟩
  · refine ab_tswK (tgt := 81) dX12_careOf_13 s9 (by decide) (by decide) (by decide +kernel) (by decide) ?_
    refine ab_bipush (pc2 := 83) (v := 13) dX12_careOf_81 rfl ab_k_bipush_13 ?_
    cases Option.some.inj hf
    exact ab_retI dX12_careOf_83 (Or.inl rfl) (Nat.le_refl _) (Nat.le_refl _) ⟨rfl, rfl⟩
  rcases ab_cas hf with ⟨s10, hf⟩ | ⟨s10, hf⟩
  · refine ab_tswK (tgt := 84) dX12_careOf_13 s10 (by decide) (by decide) (by decide +kernel) (by decide) ?_
    refine ab_bipush (pc2 := 86) (v := 8) dX12_careOf_84 rfl ab_k_bipush_8 ?_
    cases Option.some.inj hf
    exact ab_retI dX12_careOf_86 (Or.inl rfl) (Nat.le_refl _) (Nat.le_refl _) ⟨rfl, rfl⟩
  rcases ab_cas hf with ⟨s11, hf⟩ | ⟨s11, hf⟩
  · refine ab_tswK (tgt := 87) dX12_careOf_13 s11 (by decide) (by decide) (by decide +kernel) (by decide) ?_
    refine ab_iload_n (pc2 := 88) dX12_careOf_87 rfl rfl ?_
    cases Option.some.inj hf
    exact ab_retI dX12_careOf_88 (Or.inl rfl) (Nat.le_refl _) (Nat.le_refl _) ⟨rfl, rfl⟩
  have s3n := lv_neT s3 (by decide : (1 : Int32).toInt = 1)
  have s4n := lv_neT s4 (by decide : (2 : Int32).toInt = 2)
  have s6n := lv_neT s6 (by decide : (3 : Int32).toInt = 3)
  have s8n := lv_neT s8 (by decide : (4 : Int32).toInt = 4)
  have s9n := lv_neT s9 (by decide : (5 : Int32).toInt = 5)
  have s10n := lv_neT s10 (by decide : (6 : Int32).toInt = 6)
  have s11n := lv_neT s11 (by decide : (7 : Int32).toInt = 7)
  refine ab_tswOut (tgt := 89) dX12_careOf_13 (by omega) (by decide) ?_
  refine ab_iconst (pc2 := 90) (v := 4) dX12_careOf_89 rfl ab_k_iconst_4 ?_
  cases Option.some.inj hf
  exact ab_retI dX12_careOf_90 (Or.inl rfl) (Nat.le_refl _) (Nat.le_refl _) ⟨rfl, rfl⟩
set_option maxHeartbeats 4000000 in
set_option maxRecDepth 100000 in
theorem m_X12_careOf {d : Nat} {t0 : Nat} {i1 : Int32} {h : ab_HP} {r : Int32} (ht0 : (ab_shp t0).1 = 5) (hf : f_X12_careOf t0 i1 h = some r) : ab_MET mX12_careOf (d + 1) 0 0 [va_rf (some t0), .int i1] h (ab_Pi r h) := ab_met (by decide +kernel) (by decide +kernel) (Nat.le_of_ble_eq_true rfl) rfl (x_X12_careOf ht0 hf)
set_option maxHeartbeats 4000000 in
set_option maxRecDepth 100000 in
theorem x_X12_keep_b32 {d : Nat} {t0 : Nat} {i1 : Int32} {i2 : Int32} {i3 : Int32} {h : ab_HP} {r : (Int32 × ab_HP)} (ht0 : (ab_shp t0).1 = 5) (hf : f_X12_keep_b32 t0 i1 i2 i3 h = some r) : ab_T mX12_keep (d + 2) 0 0 0 0 32 [some (va_rf (some t0)), some (.int i1), some (.int i2), some (.int i3), none] [] h (ab_Pi r.1 r.2) := by
  unfold f_X12_keep_b32 at hf
  refine ab_aload_n (x := _) (pc2 := 33) dX12_keep_32 rfl rfl ?_
  refine ab_getR (pc2 := 36) rfl ht0 fa_X12_19 dX12_keep_33 rfl (fun T11 => ?_)
  refine ab_iload_n (pc2 := 37) dX12_keep_36 rfl rfl ?_
  refine ab_iload_n (pc2 := 38) dX12_keep_37 rfl rfl ?_
  obtain ⟨q12, hq12, hf⟩ := ab_bind hf
  obtain ⟨b13, hf⟩ := ab_guard hf
  have hf := ab_let_e hf
  refine ab_iast (pc2 := 39) hq12 (T11 q12 hq12) (ab_in_vp b13) dX12_keep_38 rfl ?_
  refine ab_iload_n (pc2 := 40) dX12_keep_39 rfl rfl ?_
  refine ab_if_ne (tgt := 45) (pc2 := 43) dX12_keep_40 (by decide) rfl hf (fun c15 hf => ?_) (fun c15 hf => ?_)
  · refine ab_aload_n (x := _) (pc2 := 46) dX12_keep_45 rfl rfl ?_
    refine ab_iload_n (pc2 := 47) dX12_keep_46 rfl rfl ?_
    refine ab_iconst (pc2 := 48) (v := 0) dX12_keep_47 rfl ab_k_iconst_0 ?_
    obtain ⟨w16, ew16, hf⟩ := ab_bind hf
    refine ab_callV (pc2 := 51) (st := []) rfl ht0 (by decide) (m_X12_get (d := (d + 1)) ht0 ew16) mf_X12_get tw_129 tw_128 ts_X12_get (Or.inl (by decide +kernel)) dX12_keep_48 rfl (by omega) (Nat.le_refl _) (Nat.le_refl _) rfl (Nat.le_of_ble_eq_true rfl) (fun v u hp => ?_)
    obtain ⟨rfl, rfl⟩ := hp
    show ab_T _ _ _ _ 0 0 51 _ (.int _ :: []) _ _
    refine ab_istore (pc2 := 53) (lo2 := [some (va_rf _), some (.int _), some (.int _), some (.int _), some (.int _)]) dX12_keep_51 rfl (by decide) rfl ?_
    refine ab_aload_n (x := _) (pc2 := 54) dX12_keep_53 rfl rfl ?_
    refine ab_getR (pc2 := 57) rfl ht0 fa_X12_31 dX12_keep_54 rfl (fun T17 => ?_)
    refine ab_iload_n (pc2 := 58) dX12_keep_57 rfl rfl ?_
    refine ab_aload_n (x := _) (pc2 := 59) dX12_keep_58 rfl rfl ?_
    refine ab_iload_n (pc2 := 60) dX12_keep_59 rfl rfl ?_
    obtain ⟨w18, ew18, hf⟩ := ab_bind hf
    refine ab_callV (pc2 := 63) (st := [_, _]) rfl ht0 (by decide) (m_X12_careOf (d := (d + 0)) ht0 ew18) mf_X12_careOf tw_331 tw_330 ts_X12_careOf (Or.inl (by decide +kernel)) dX12_keep_60 rfl (by omega) (Nat.le_refl _) (Nat.le_refl _) rfl (Nat.le_of_ble_eq_true rfl) (fun v u hp => ?_)
    obtain ⟨rfl, rfl⟩ := hp
    show ab_T _ _ _ _ 0 0 63 _ (.int _ :: [_, _]) _ _
    obtain ⟨q19, hq19, hf⟩ := ab_bind hf
    obtain ⟨b20, hf⟩ := ab_guard hf
    have hf := ab_let_e hf
    refine ab_iast (pc2 := 64) hq19 (T17 q19 hq19) (ab_in_vp b20) dX12_keep_63 rfl ?_
    refine ab_aload_n (x := _) (pc2 := 65) dX12_keep_64 rfl rfl ?_
    refine ab_getR (pc2 := 68) rfl ht0 fa_X12_34 dX12_keep_65 rfl (fun T22 => ?_)
    refine ab_iload_n (pc2 := 69) dX12_keep_68 rfl rfl ?_
    refine ab_iload (pc2 := 71) dX12_keep_69 rfl rfl ?_
    refine ab_iconst (pc2 := 72) (v := 3) dX12_keep_71 rfl ab_k_iconst_3 ?_
    refine ab_icmp_eq (tgt := 84) (pc2 := 75) dX12_keep_72 (by decide) rfl hf (fun c23 hf => ?_) (fun c23 hf => ?_)
    · refine ab_bipush (pc2 := 86) (v := (-15)) dX12_keep_84 rfl ab_k_bipush_m15 ?_
      refine ab_goto (tgt := 122) dX12_keep_86 (by decide) ?_
      obtain ⟨q24, hq24, hf⟩ := ab_bind hf
      obtain ⟨b25, hf⟩ := ab_guard hf
      have hf := ab_let_e hf
      refine ab_iast (pc2 := 123) hq24 (T22 q24 hq24) (ab_in_vp b25) dX12_keep_122 rfl ?_
      refine ab_iconst (pc2 := 124) (v := 0) dX12_keep_123 rfl ab_k_iconst_0 ?_
      cases Option.some.inj hf
      exact ab_retI dX12_keep_124 (Or.inl rfl) (Nat.le_refl _) (Nat.le_refl _) ⟨rfl, rfl⟩
    · refine ab_aload_n (x := _) (pc2 := 76) dX12_keep_75 rfl rfl ?_
      refine ab_iload_n (pc2 := 77) dX12_keep_76 rfl rfl ?_
      refine ab_iconst (pc2 := 78) (v := 4) dX12_keep_77 rfl ab_k_iconst_4 ?_
      obtain ⟨w27, ew27, hf⟩ := ab_bind hf
      refine ab_callV (pc2 := 81) (st := [_, _]) rfl ht0 (by decide) (m_X12_get (d := (d + 1)) ht0 ew27) mf_X12_get tw_129 tw_128 ts_X12_get (Or.inl (by decide +kernel)) dX12_keep_78 rfl (by omega) (Nat.le_refl _) (Nat.le_refl _) rfl (Nat.le_of_ble_eq_true rfl) (fun v u hp => ?_)
      obtain ⟨rfl, rfl⟩ := hp
      show ab_T _ _ _ _ 0 0 81 _ (.int _ :: [_, _]) _ _
      refine ab_if_ne (tgt := 89) (pc2 := 84) dX12_keep_81 (by decide) rfl hf (fun c28 hf => ?_) (fun c28 hf => ?_)
      · refine ab_iload (pc2 := 91) dX12_keep_89 rfl rfl ?_
        refine ab_iconst (pc2 := 92) (v := 5) dX12_keep_91 rfl ab_k_iconst_5 ?_
        refine ab_icmp_ne (tgt := 102) (pc2 := 95) dX12_keep_92 (by decide) rfl hf (fun c29 hf => ?_) (fun c29 hf => ?_)
        · refine ab_iload (pc2 := 104) dX12_keep_102 rfl rfl ?_
          refine ab_bipush (pc2 := 106) (v := 7) dX12_keep_104 rfl ab_k_bipush_7 ?_
          refine ab_icmp_ne (tgt := 121) (pc2 := 109) dX12_keep_106 (by decide) rfl hf (fun c30 hf => ?_) (fun c30 hf => ?_)
          · refine ab_iload_n (pc2 := 122) dX12_keep_121 rfl rfl ?_
            obtain ⟨q31, hq31, hf⟩ := ab_bind hf
            obtain ⟨b32, hf⟩ := ab_guard hf
            have hf := ab_let_e hf
            refine ab_iast (pc2 := 123) hq31 (T22 q31 hq31) (ab_in_vp b32) dX12_keep_122 rfl ?_
            refine ab_iconst (pc2 := 124) (v := 0) dX12_keep_123 rfl ab_k_iconst_0 ?_
            cases Option.some.inj hf
            exact ab_retI dX12_keep_124 (Or.inl rfl) (Nat.le_refl _) (Nat.le_refl _) ⟨rfl, rfl⟩
          · refine ab_sipush (pc2 := 112) (v := 200) dX12_keep_109 rfl ab_k_sipush_200 ?_
            refine ab_aload_n (x := _) (pc2 := 113) dX12_keep_112 rfl rfl ?_
            refine ab_iload_n (pc2 := 114) dX12_keep_113 rfl rfl ?_
            obtain ⟨w34, ew34, hf⟩ := ab_bind hf
            refine ab_callV (pc2 := 117) (st := [_, _, _]) rfl ht0 (by decide) (m_X12_careOf (d := (d + 0)) ht0 ew34) mf_X12_careOf tw_331 tw_330 ts_X12_careOf (Or.inl (by decide +kernel)) dX12_keep_114 rfl (by omega) (Nat.le_refl _) (Nat.le_refl _) rfl (Nat.le_of_ble_eq_true rfl) (fun v u hp => ?_)
            obtain ⟨rfl, rfl⟩ := hp
            show ab_T _ _ _ _ 0 0 117 _ (.int _ :: [_, _, _]) _ _
            refine ab_iadd (pc2 := 118) dX12_keep_117 rfl ?_
            refine ab_goto (tgt := 122) dX12_keep_118 (by decide) ?_
            obtain ⟨q35, hq35, hf⟩ := ab_bind hf
            obtain ⟨b36, hf⟩ := ab_guard hf
            have hf := ab_let_e hf
            refine ab_iast (pc2 := 123) hq35 (T22 q35 hq35) (ab_in_vp b36) dX12_keep_122 rfl ?_
            refine ab_iconst (pc2 := 124) (v := 0) dX12_keep_123 rfl ab_k_iconst_0 ?_
            cases Option.some.inj hf
            exact ab_retI dX12_keep_124 (Or.inl rfl) (Nat.le_refl _) (Nat.le_refl _) ⟨rfl, rfl⟩
        · refine ab_bipush (pc2 := 97) (v := 100) dX12_keep_95 rfl ab_k_bipush_100 ?_
          refine ab_iload_n (pc2 := 98) dX12_keep_97 rfl rfl ?_
          refine ab_iadd (pc2 := 99) dX12_keep_98 rfl ?_
          refine ab_goto (tgt := 122) dX12_keep_99 (by decide) ?_
          obtain ⟨q38, hq38, hf⟩ := ab_bind hf
          obtain ⟨b39, hf⟩ := ab_guard hf
          have hf := ab_let_e hf
          refine ab_iast (pc2 := 123) hq38 (T22 q38 hq38) (ab_in_vp b39) dX12_keep_122 rfl ?_
          refine ab_iconst (pc2 := 124) (v := 0) dX12_keep_123 rfl ab_k_iconst_0 ?_
          cases Option.some.inj hf
          exact ab_retI dX12_keep_124 (Or.inl rfl) (Nat.le_refl _) (Nat.le_refl _) ⟨rfl, rfl⟩
      · refine ab_bipush (pc2 := 86) (v := (-15)) dX12_keep_84 rfl ab_k_bipush_m15 ?_
        refine ab_goto (tgt := 122) dX12_keep_86 (by decide) ?_
        obtain ⟨q41, hq41, hf⟩ := ab_bind hf
        obtain ⟨b42, hf⟩ := ab_guard hf
        have hf := ab_let_e hf
        refine ab_iast (pc2 := 123) hq41 (T22 q41 hq41) (ab_in_vp b42) dX12_keep_122 rfl ?_
        refine ab_iconst (pc2 := 124) (v := 0) dX12_keep_123 rfl ab_k_iconst_0 ?_
        cases Option.some.inj hf
        exact ab_retI dX12_keep_124 (Or.inl rfl) (Nat.le_refl _) (Nat.le_refl _) ⟨rfl, rfl⟩
  · refine ab_iconst (pc2 := 44) (v := 0) dX12_keep_43 rfl ab_k_iconst_0 ?_
    cases Option.some.inj hf
    exact ab_retI dX12_keep_44 (Or.inl rfl) (Nat.le_refl _) (Nat.le_refl _) ⟨rfl, rfl⟩
set_option maxHeartbeats 4000000 in
set_option maxRecDepth 100000 in
theorem x_X12_keep {d : Nat} {t0 : Nat} {i1 : Int32} {i2 : Int32} {i3 : Int32} {h : ab_HP} {r : (Int32 × ab_HP)} (ht0 : (ab_shp t0).1 = 5) (hf : f_X12_keep t0 i1 i2 i3 h = some r) : ab_T mX12_keep (d + 2) 0 0 0 0 0 [some (va_rf (some t0)), some (.int i1), some (.int i2), some (.int i3), none] [] h (ab_Pi r.1 r.2) := by
  unfold f_X12_keep at hf
  refine ab_iload_n (pc2 := 1) dX12_keep_0 rfl rfl ?_
  obtain ⟨w1, ew1, hf⟩ := ab_bind hf
  refine ab_callS (pc2 := 4) (st := []) (m_X12_isShelf (d := (d + 0)) ew1) mf_X12_isShelf tw_103 tw_104 dX12_keep_1 rfl (by omega) (Nat.le_refl _) (Nat.le_refl _) rfl (Nat.le_of_ble_eq_true rfl) (fun v u hp => ?_)
  obtain ⟨rfl, rfl, z2⟩ := hp
  show ab_T _ _ _ _ 0 0 4 _ (.int _ :: []) _ _
  refine ab_if_eq (tgt := 30) (pc2 := 7) dX12_keep_4 (by decide) rfl hf (fun c3 hf => ?_) (fun c3 hf => ?_)
  · refine ab_iconst (pc2 := 31) (v := (-1)) dX12_keep_30 rfl ab_k_iconst_m1 ?_
    cases Option.some.inj hf
    exact ab_retI dX12_keep_31 (Or.inl rfl) (Nat.le_refl _) (Nat.le_refl _) ⟨rfl, rfl⟩
  · refine ab_iload_n (pc2 := 8) dX12_keep_7 rfl rfl ?_
    refine ab_i2l (pc2 := 9) dX12_keep_8 rfl ?_
    refine ab_lconst (pc2 := 10) (v := 0) dX12_keep_9 rfl rfl ?_
    refine ab_lconst (pc2 := 11) (v := 1) dX12_keep_10 rfl rfl ?_
    obtain ⟨w4, ew4, hf⟩ := ab_bind hf
    refine ab_callS (pc2 := 14) (st := []) (m_X12_isIn (d := (d + 1)) ew4) mf_X12_isIn tw_101 tw_102 dX12_keep_11 rfl (by omega) (Nat.le_refl _) (Nat.le_refl _) rfl (Nat.le_of_ble_eq_true rfl) (fun v u hp => ?_)
    obtain ⟨rfl, rfl, z5⟩ := hp
    show ab_T _ _ _ _ 0 0 14 _ (.int _ :: []) _ _
    refine ab_if_eq (tgt := 30) (pc2 := 17) dX12_keep_14 (by decide) rfl hf (fun c6 hf => ?_) (fun c6 hf => ?_)
    · refine ab_iconst (pc2 := 31) (v := (-1)) dX12_keep_30 rfl ab_k_iconst_m1 ?_
      cases Option.some.inj hf
      exact ab_retI dX12_keep_31 (Or.inl rfl) (Nat.le_refl _) (Nat.le_refl _) ⟨rfl, rfl⟩
    · refine ab_iload_n (pc2 := 18) dX12_keep_17 rfl rfl ?_
      refine ab_iconst (pc2 := 19) (v := 1) dX12_keep_18 rfl ab_k_iconst_1 ?_
      refine ab_icmp_ne (tgt := 32) (pc2 := 22) dX12_keep_19 (by decide) rfl hf (fun c7 hf => ?_) (fun c7 hf => ?_)
      · exact ab_weak (x_X12_keep_b32 ht0 hf) (ab_leS (ab_leS (ab_leS (ab_leS (ab_leN ab_le0)))))
      · refine ab_aload_n (x := _) (pc2 := 23) dX12_keep_22 rfl rfl ?_
        refine ab_iload_n (pc2 := 24) dX12_keep_23 rfl rfl ?_
        obtain ⟨w8, ew8, hf⟩ := ab_bind hf
        refine ab_callV (pc2 := 27) (st := []) rfl ht0 (by decide) (m_X12_isDeed (d := (d + 0)) ht0 ew8) mf_X12_isDeed tw_133 tw_132 ts_X12_isDeed (Or.inl (by decide +kernel)) dX12_keep_24 rfl (by omega) (Nat.le_refl _) (Nat.le_refl _) rfl (Nat.le_of_ble_eq_true rfl) (fun v u hp => ?_)
        obtain ⟨rfl, rfl, z9⟩ := hp
        show ab_T _ _ _ _ 0 0 27 _ (.int _ :: []) _ _
        refine ab_if_ne (tgt := 32) (pc2 := 30) dX12_keep_27 (by decide) rfl hf (fun c10 hf => ?_) (fun c10 hf => ?_)
        · exact ab_weak (x_X12_keep_b32 ht0 hf) (ab_leS (ab_leS (ab_leS (ab_leS (ab_leN ab_le0)))))
        · refine ab_iconst (pc2 := 31) (v := (-1)) dX12_keep_30 rfl ab_k_iconst_m1 ?_
          cases Option.some.inj hf
          exact ab_retI dX12_keep_31 (Or.inl rfl) (Nat.le_refl _) (Nat.le_refl _) ⟨rfl, rfl⟩
set_option maxHeartbeats 4000000 in
set_option maxRecDepth 100000 in
theorem m_X12_keep {d : Nat} {t0 : Nat} {i1 : Int32} {i2 : Int32} {i3 : Int32} {h : ab_HP} {r : (Int32 × ab_HP)} (ht0 : (ab_shp t0).1 = 5) (hf : f_X12_keep t0 i1 i2 i3 h = some r) : ab_MET mX12_keep (d + 2) 0 0 [va_rf (some t0), .int i1, .int i2, .int i3] h (ab_Pi r.1 r.2) := ab_met (by decide +kernel) (by decide +kernel) (Nat.le_of_ble_eq_true rfl) rfl (x_X12_keep ht0 hf)
set_option maxHeartbeats 4000000 in
set_option maxRecDepth 100000 in
theorem x_X12_row_l58 {d : Nat} {t0 : Nat} {r : (Int32 × ab_HP)} (ht0 : (ab_shp t0).1 = 5) : ∀ (n : Nat) (i1 : Int32) (i4 : Int32) (h : ab_HP), f_X12_row_l58 t0 n i1 i4 h = some r → ab_T mX12_row (d + 2) 0 0 0 0 58 [some (va_rf (some t0)), some (.int i1), none, none, some (.int i4)] [] h (ab_Pi r.1 r.2) := by
  intro n
  induction n with
  | zero =>
    intro i1 i4 h hf
    rw [f_X12_row_l58] at hf
    cases hf
  | succ n ih =>
    intro i1 i4 h hf
    rw [f_X12_row_l58] at hf
    refine ab_iload (pc2 := 60) dX12_row_58 rfl rfl ?_
    refine ab_bipush (pc2 := 62) (v := 100) dX12_row_60 rfl ab_k_bipush_100 ?_
    refine ab_icmp_ge (tgt := 84) (pc2 := 65) dX12_row_62 (by decide) rfl hf (fun c21 hf => ?_) (fun c21 hf => ?_)
    · refine ab_iconst (pc2 := 85) (v := 0) dX12_row_84 rfl ab_k_iconst_0 ?_
      cases Option.some.inj hf
      exact ab_retI dX12_row_85 (Or.inl rfl) (Nat.le_refl _) (Nat.le_refl _) ⟨rfl, rfl⟩
    · refine ab_aload_n (x := _) (pc2 := 66) dX12_row_65 rfl rfl ?_
      refine ab_getR (pc2 := 69) rfl ht0 fa_X12_28 dX12_row_66 rfl (fun T22 => ?_)
      refine ab_bipush (pc2 := 71) (v := 100) dX12_row_69 rfl ab_k_bipush_100 ?_
      refine ab_iload_n (pc2 := 72) dX12_row_71 rfl rfl ?_
      refine ab_imul (pc2 := 73) dX12_row_72 rfl ?_
      refine ab_iload (pc2 := 75) dX12_row_73 rfl rfl ?_
      refine ab_iadd (pc2 := 76) dX12_row_75 rfl ?_
      refine ab_iconst (pc2 := 77) (v := 0) dX12_row_76 rfl ab_k_iconst_0 ?_
      obtain ⟨q23, hq23, hf⟩ := ab_bind hf
      obtain ⟨b24, hf⟩ := ab_guard hf
      have hf := ab_let_e hf
      refine ab_iast (pc2 := 78) hq23 (T22 q23 hq23) (ab_in_vp b24) dX12_row_77 rfl ?_
      refine ab_iinc (pc2 := 81) (v := _ + 1) (lo2 := [some (va_rf _), some (.int _), none, none, some (.int _)]) dX12_row_78 rfl rfl rfl (by decide) rfl ?_
      refine ab_goto (tgt := 58) dX12_row_81 (by decide) ?_
      exact ab_weak (ih _ _ _ hf) (ab_leS (ab_leS (ab_leN (ab_leN (ab_leS ab_le0)))))
set_option maxHeartbeats 4000000 in
set_option maxRecDepth 100000 in
theorem x_X12_row {d : Nat} {t0 : Nat} {i1 : Int32} {i2 : Int32} {i3 : Int32} {h : ab_HP} {r : (Int32 × ab_HP)} (ht0 : (ab_shp t0).1 = 5) (hf : f_X12_row t0 i1 i2 i3 h = some r) : ab_T mX12_row (d + 2) 0 0 0 0 0 [some (va_rf (some t0)), some (.int i1), some (.int i2), some (.int i3), none] [] h (ab_Pi r.1 r.2) := by
  unfold f_X12_row at hf
  refine ab_iload_n (pc2 := 1) dX12_row_0 rfl rfl ?_
  obtain ⟨w1, ew1, hf⟩ := ab_bind hf
  refine ab_callS (pc2 := 4) (st := []) (m_X12_isShelf (d := (d + 0)) ew1) mf_X12_isShelf tw_103 tw_104 dX12_row_1 rfl (by omega) (Nat.le_refl _) (Nat.le_refl _) rfl (Nat.le_of_ble_eq_true rfl) (fun v u hp => ?_)
  obtain ⟨rfl, rfl, z2⟩ := hp
  show ab_T _ _ _ _ 0 0 4 _ (.int _ :: []) _ _
  refine ab_if_eq (tgt := 25) (pc2 := 7) dX12_row_4 (by decide) rfl hf (fun c3 hf => ?_) (fun c3 hf => ?_)
  · refine ab_iconst (pc2 := 26) (v := (-1)) dX12_row_25 rfl ab_k_iconst_m1 ?_
    cases Option.some.inj hf
    exact ab_retI dX12_row_26 (Or.inl rfl) (Nat.le_refl _) (Nat.le_refl _) ⟨rfl, rfl⟩
  · refine ab_iload_n (pc2 := 8) dX12_row_7 rfl rfl ?_
    refine ab_i2l (pc2 := 9) dX12_row_8 rfl ?_
    refine ab_lconst (pc2 := 10) (v := 0) dX12_row_9 rfl rfl ?_
    refine ab_ldc2 (pc2 := 13) (v := 2) dX12_row_10 rfl tw_143 ?_
    obtain ⟨w4, ew4, hf⟩ := ab_bind hf
    refine ab_callS (pc2 := 16) (st := []) (m_X12_isIn (d := (d + 1)) ew4) mf_X12_isIn tw_101 tw_102 dX12_row_13 rfl (by omega) (Nat.le_refl _) (Nat.le_refl _) rfl (Nat.le_of_ble_eq_true rfl) (fun v u hp => ?_)
    obtain ⟨rfl, rfl, z5⟩ := hp
    show ab_T _ _ _ _ 0 0 16 _ (.int _ :: []) _ _
    refine ab_if_eq (tgt := 25) (pc2 := 19) dX12_row_16 (by decide) rfl hf (fun c6 hf => ?_) (fun c6 hf => ?_)
    · refine ab_iconst (pc2 := 26) (v := (-1)) dX12_row_25 rfl ab_k_iconst_m1 ?_
      cases Option.some.inj hf
      exact ab_retI dX12_row_26 (Or.inl rfl) (Nat.le_refl _) (Nat.le_refl _) ⟨rfl, rfl⟩
    · refine ab_iload_n (pc2 := 20) dX12_row_19 rfl rfl ?_
      refine ab_bipush (pc2 := 22) (v := 100) dX12_row_20 rfl ab_k_bipush_100 ?_
      refine ab_icmp_le (tgt := 27) (pc2 := 25) dX12_row_22 (by decide) rfl hf (fun c7 hf => ?_) (fun c7 hf => ?_)
      · refine ab_iload_n (pc2 := 28) dX12_row_27 rfl rfl ?_
        refine ab_if_ge (tgt := 34) (pc2 := 31) dX12_row_28 (by decide) rfl hf (fun c8 hf => ?_) (fun c8 hf => ?_)
        · refine ab_aload_n (x := _) (pc2 := 35) dX12_row_34 rfl rfl ?_
          refine ab_getR (pc2 := 38) rfl ht0 fa_X12_19 dX12_row_35 rfl (fun T9 => ?_)
          refine ab_iload_n (pc2 := 39) dX12_row_38 rfl rfl ?_
          refine ab_iconst (pc2 := 40) (v := 2) dX12_row_39 rfl ab_k_iconst_2 ?_
          obtain ⟨q10, hq10, hf⟩ := ab_bind hf
          obtain ⟨b11, hf⟩ := ab_guard hf
          have hf := ab_let_e hf
          refine ab_iast (pc2 := 41) hq10 (T9 q10 hq10) (ab_in_vp b11) dX12_row_40 rfl ?_
          refine ab_aload_n (x := _) (pc2 := 42) dX12_row_41 rfl rfl ?_
          refine ab_getR (pc2 := 45) rfl ht0 fa_X12_22 dX12_row_42 rfl (fun T13 => ?_)
          refine ab_iload_n (pc2 := 46) dX12_row_45 rfl rfl ?_
          refine ab_iload_n (pc2 := 47) dX12_row_46 rfl rfl ?_
          obtain ⟨q14, hq14, hf⟩ := ab_bind hf
          obtain ⟨b15, hf⟩ := ab_guard hf
          have hf := ab_let_e hf
          refine ab_iast (pc2 := 48) hq14 (T13 q14 hq14) (ab_in_vp b15) dX12_row_47 rfl ?_
          refine ab_aload_n (x := _) (pc2 := 49) dX12_row_48 rfl rfl ?_
          refine ab_getR (pc2 := 52) rfl ht0 fa_X12_25 dX12_row_49 rfl (fun T17 => ?_)
          refine ab_iload_n (pc2 := 53) dX12_row_52 rfl rfl ?_
          refine ab_iload_n (pc2 := 54) dX12_row_53 rfl rfl ?_
          obtain ⟨q18, hq18, hf⟩ := ab_bind hf
          obtain ⟨b19, hf⟩ := ab_guard hf
          have hf := ab_let_e hf
          refine ab_iast (pc2 := 55) hq18 (T17 q18 hq18) (ab_in_vp b19) dX12_row_54 rfl ?_
          refine ab_iconst (pc2 := 56) (v := 0) dX12_row_55 rfl ab_k_iconst_0 ?_
          refine ab_istore (pc2 := 58) (lo2 := [some (va_rf _), some (.int _), some (.int _), some (.int _), some (.int _)]) dX12_row_56 rfl (by decide) rfl ?_
          exact ab_weak (x_X12_row_l58 ht0 _ _ _ _ hf) (ab_leS (ab_leS (ab_leN (ab_leN (ab_leS ab_le0)))))
        · refine ab_bipush (pc2 := 33) (v := (-14)) dX12_row_31 rfl ab_k_bipush_m14 ?_
          cases Option.some.inj hf
          exact ab_retI dX12_row_33 (Or.inl rfl) (Nat.le_refl _) (Nat.le_refl _) ⟨rfl, rfl⟩
      · refine ab_iconst (pc2 := 26) (v := (-1)) dX12_row_25 rfl ab_k_iconst_m1 ?_
        cases Option.some.inj hf
        exact ab_retI dX12_row_26 (Or.inl rfl) (Nat.le_refl _) (Nat.le_refl _) ⟨rfl, rfl⟩
set_option maxHeartbeats 4000000 in
set_option maxRecDepth 100000 in
theorem m_X12_row {d : Nat} {t0 : Nat} {i1 : Int32} {i2 : Int32} {i3 : Int32} {h : ab_HP} {r : (Int32 × ab_HP)} (ht0 : (ab_shp t0).1 = 5) (hf : f_X12_row t0 i1 i2 i3 h = some r) : ab_MET mX12_row (d + 2) 0 0 [va_rf (some t0), .int i1, .int i2, .int i3] h (ab_Pi r.1 r.2) := ab_met (by decide +kernel) (by decide +kernel) (Nat.le_of_ble_eq_true rfl) rfl (x_X12_row ht0 hf)
set_option maxHeartbeats 4000000 in
set_option maxRecDepth 100000 in
theorem x_X12_put {d : Nat} {t0 : Nat} {i1 : Int32} {i2 : Int32} {i3 : Int32} {h : ab_HP} {r : (Int32 × ab_HP)} (ht0 : (ab_shp t0).1 = 5) (hf : f_X12_put t0 i1 i2 i3 h = some r) : ab_T mX12_put (d + 3) 0 0 0 0 0 [some (va_rf (some t0)), some (.int i1), some (.int i2), some (.int i3), none] [] h (ab_Pi r.1 r.2) := by
  unfold f_X12_put at hf
  refine ab_aload_n (x := _) (pc2 := 1) dX12_put_0 rfl rfl ?_
  refine ab_iload_n (pc2 := 2) dX12_put_1 rfl rfl ?_
  refine ab_iconst (pc2 := 3) (v := (-1)) dX12_put_2 rfl ab_k_iconst_m1 ?_
  obtain ⟨w1, ew1, hf⟩ := ab_bind hf
  refine ab_callV (pc2 := 6) (st := []) rfl ht0 (by decide) (m_X12_wrongRow (d := (d + 0)) ht0 ew1) mf_X12_wrongRow tw_122 tw_121 ts_X12_wrongRow (Or.inl (by decide +kernel)) dX12_put_3 rfl (by omega) (Nat.le_refl _) (Nat.le_refl _) rfl (Nat.le_of_ble_eq_true rfl) (fun v u hp => ?_)
  obtain ⟨rfl, rfl⟩ := hp
  show ab_T _ _ _ _ 0 0 6 _ (.int _ :: []) _ _
  refine ab_istore (pc2 := 8) (lo2 := [some (va_rf _), some (.int _), some (.int _), some (.int _), some (.int _)]) dX12_put_6 rfl (by decide) rfl ?_
  refine ab_iload (pc2 := 10) dX12_put_8 rfl rfl ?_
  refine ab_if_eq (tgt := 16) (pc2 := 13) dX12_put_10 (by decide) rfl hf (fun c2 hf => ?_) (fun c2 hf => ?_)
  · refine ab_iload_n (pc2 := 17) dX12_put_16 rfl rfl ?_
    refine ab_i2l (pc2 := 18) dX12_put_17 rfl ?_
    refine ab_lconst (pc2 := 19) (v := 0) dX12_put_18 rfl rfl ?_
    refine ab_aload_n (x := _) (pc2 := 20) dX12_put_19 rfl rfl ?_
    refine ab_getR (pc2 := 23) rfl ht0 fa_X12_25 dX12_put_20 rfl (fun T3 => ?_)
    refine ab_iload_n (pc2 := 24) dX12_put_23 rfl rfl ?_
    obtain ⟨q4, hq4, hf⟩ := ab_bind hf
    obtain ⟨b5, hf⟩ := ab_guard hf
    refine ab_iald (pc2 := 25) hq4 (T3 q4 hq4) (ab_in_vp b5) dX12_put_24 rfl ?_
    refine ab_iconst (pc2 := 26) (v := 1) dX12_put_25 rfl ab_k_iconst_1 ?_
    refine ab_isub (pc2 := 27) dX12_put_26 rfl ?_
    refine ab_i2l (pc2 := 28) dX12_put_27 rfl ?_
    obtain ⟨w6, ew6, hf⟩ := ab_bind hf
    refine ab_callS (pc2 := 31) (st := []) (m_X12_isIn (d := (d + 2)) ew6) mf_X12_isIn tw_101 tw_102 dX12_put_28 rfl (by omega) (Nat.le_refl _) (Nat.le_refl _) rfl (Nat.le_of_ble_eq_true rfl) (fun v u hp => ?_)
    obtain ⟨rfl, rfl, z7⟩ := hp
    show ab_T _ _ _ _ 0 0 31 _ (.int _ :: []) _ _
    refine ab_if_ne (tgt := 37) (pc2 := 34) dX12_put_31 (by decide) rfl hf (fun c8 hf => ?_) (fun c8 hf => ?_)
    · refine ab_aload_n (x := _) (pc2 := 38) dX12_put_37 rfl rfl ?_
      refine ab_getR (pc2 := 41) rfl ht0 fa_X12_28 dX12_put_38 rfl (fun T9 => ?_)
      refine ab_bipush (pc2 := 43) (v := 100) dX12_put_41 rfl ab_k_bipush_100 ?_
      refine ab_iload_n (pc2 := 44) dX12_put_43 rfl rfl ?_
      refine ab_imul (pc2 := 45) dX12_put_44 rfl ?_
      refine ab_iload_n (pc2 := 46) dX12_put_45 rfl rfl ?_
      refine ab_iadd (pc2 := 47) dX12_put_46 rfl ?_
      refine ab_aload_n (x := _) (pc2 := 48) dX12_put_47 rfl rfl ?_
      refine ab_getR (pc2 := 51) rfl ht0 fa_X12_22 dX12_put_48 rfl (fun T10 => ?_)
      refine ab_iload_n (pc2 := 52) dX12_put_51 rfl rfl ?_
      obtain ⟨q11, hq11, hf⟩ := ab_bind hf
      obtain ⟨b12, hf⟩ := ab_guard hf
      refine ab_iald (pc2 := 53) hq11 (T10 q11 hq11) (ab_in_vp b12) dX12_put_52 rfl ?_
      refine ab_if_ne (tgt := 61) (pc2 := 56) dX12_put_53 (by decide) rfl hf (fun c13 hf => ?_) (fun c13 hf => ?_)
      · refine ab_aload_n (x := _) (pc2 := 62) dX12_put_61 rfl rfl ?_
        refine ab_getR (pc2 := 65) rfl ht0 fa_X12_22 dX12_put_62 rfl (fun T14 => ?_)
        refine ab_iload_n (pc2 := 66) dX12_put_65 rfl rfl ?_
        obtain ⟨q15, hq15, hf⟩ := ab_bind hf
        obtain ⟨b16, hf⟩ := ab_guard hf
        refine ab_iald (pc2 := 67) hq15 (T14 q15 hq15) (ab_in_vp b16) dX12_put_66 rfl ?_
        refine ab_iconst (pc2 := 68) (v := 1) dX12_put_67 rfl ab_k_iconst_1 ?_
        refine ab_icmp_ne (tgt := 76) (pc2 := 71) dX12_put_68 (by decide) rfl hf (fun c17 hf => ?_) (fun c17 hf => ?_)
        · refine ab_iload_n (pc2 := 77) dX12_put_76 rfl rfl ?_
          obtain ⟨q18, hq18, hf⟩ := ab_bind hf
          obtain ⟨b19, hf⟩ := ab_guard hf
          have hf := ab_let_e hf
          refine ab_iast (pc2 := 78) hq18 (T9 q18 hq18) (ab_in_vp b19) dX12_put_77 rfl ?_
          refine ab_iconst (pc2 := 79) (v := 0) dX12_put_78 rfl ab_k_iconst_0 ?_
          cases Option.some.inj hf
          exact ab_retI dX12_put_79 (Or.inl rfl) (Nat.le_refl _) (Nat.le_refl _) ⟨rfl, rfl⟩
        · refine ab_iload_n (pc2 := 72) dX12_put_71 rfl rfl ?_
          refine ab_i2s (pc2 := 73) dX12_put_72 rfl ?_
          refine ab_goto (tgt := 77) dX12_put_73 (by decide) ?_
          obtain ⟨q21, hq21, hf⟩ := ab_bind hf
          obtain ⟨b22, hf⟩ := ab_guard hf
          have hf := ab_let_e hf
          refine ab_iast (pc2 := 78) hq21 (T9 q21 hq21) (ab_in_vp b22) dX12_put_77 rfl ?_
          refine ab_iconst (pc2 := 79) (v := 0) dX12_put_78 rfl ab_k_iconst_0 ?_
          cases Option.some.inj hf
          exact ab_retI dX12_put_79 (Or.inl rfl) (Nat.le_refl _) (Nat.le_refl _) ⟨rfl, rfl⟩
      · refine ab_iload_n (pc2 := 57) dX12_put_56 rfl rfl ?_
        refine ab_i2b (pc2 := 58) dX12_put_57 rfl ?_
        refine ab_goto (tgt := 77) dX12_put_58 (by decide) ?_
        obtain ⟨q24, hq24, hf⟩ := ab_bind hf
        obtain ⟨b25, hf⟩ := ab_guard hf
        have hf := ab_let_e hf
        refine ab_iast (pc2 := 78) hq24 (T9 q24 hq24) (ab_in_vp b25) dX12_put_77 rfl ?_
        refine ab_iconst (pc2 := 79) (v := 0) dX12_put_78 rfl ab_k_iconst_0 ?_
        cases Option.some.inj hf
        exact ab_retI dX12_put_79 (Or.inl rfl) (Nat.le_refl _) (Nat.le_refl _) ⟨rfl, rfl⟩
    · refine ab_bipush (pc2 := 36) (v := (-13)) dX12_put_34 rfl ab_k_bipush_m13 ?_
      cases Option.some.inj hf
      exact ab_retI dX12_put_36 (Or.inl rfl) (Nat.le_refl _) (Nat.le_refl _) ⟨rfl, rfl⟩
  · refine ab_iload (pc2 := 15) dX12_put_13 rfl rfl ?_
    cases Option.some.inj hf
    exact ab_retI dX12_put_15 (Or.inl rfl) (Nat.le_refl _) (Nat.le_refl _) ⟨rfl, rfl⟩
set_option maxHeartbeats 4000000 in
set_option maxRecDepth 100000 in
theorem m_X12_put {d : Nat} {t0 : Nat} {i1 : Int32} {i2 : Int32} {i3 : Int32} {h : ab_HP} {r : (Int32 × ab_HP)} (ht0 : (ab_shp t0).1 = 5) (hf : f_X12_put t0 i1 i2 i3 h = some r) : ab_MET mX12_put (d + 3) 0 0 [va_rf (some t0), .int i1, .int i2, .int i3] h (ab_Pi r.1 r.2) := ab_met (by decide +kernel) (by decide +kernel) (Nat.le_of_ble_eq_true rfl) rfl (x_X12_put ht0 hf)
set_option maxHeartbeats 4000000 in
set_option maxRecDepth 100000 in
theorem x_X12_element {d : Nat} {t0 : Nat} {i1 : Int32} {i2 : Int32} {h : ab_HP} {r : (Int64 × ab_HP)} (ht0 : (ab_shp t0).1 = 5) (hf : f_X12_element t0 i1 i2 h = some r) : ab_T mX12_element (d + 2) 0 0 0 0 0 [some (va_rf (some t0)), some (.int i1), some (.int i2)] [] h (ab_Pl r.1 r.2) := by
  unfold f_X12_element at hf
  refine ab_aload_n (x := _) (pc2 := 1) dX12_element_0 rfl rfl ?_
  refine ab_iload_n (pc2 := 2) dX12_element_1 rfl rfl ?_
  obtain ⟨w1, ew1, hf⟩ := ab_bind hf
  refine ab_callS (pc2 := 5) (st := [_]) (m_X12_isShelf (d := (d + 0)) ew1) mf_X12_isShelf tw_103 tw_104 dX12_element_2 rfl (by omega) (Nat.le_refl _) (Nat.le_refl _) rfl (Nat.le_of_ble_eq_true rfl) (fun v u hp => ?_)
  obtain ⟨rfl, rfl, z2⟩ := hp
  show ab_T _ _ _ _ 0 0 5 _ (.int _ :: [_]) _ _
  refine ab_if_ne (tgt := 12) (pc2 := 8) dX12_element_5 (by decide) rfl hf (fun c3 hf => ?_) (fun c3 hf => ?_)
  · refine ab_aload_n (x := _) (pc2 := 13) dX12_element_12 rfl rfl ?_
    refine ab_getR (pc2 := 16) rfl ht0 fa_X12_19 dX12_element_13 rfl (fun T4 => ?_)
    refine ab_iload_n (pc2 := 17) dX12_element_16 rfl rfl ?_
    obtain ⟨q5, hq5, hf⟩ := ab_bind hf
    obtain ⟨b6, hf⟩ := ab_guard hf
    refine ab_iald (pc2 := 18) hq5 (T4 q5 hq5) (ab_in_vp b6) dX12_element_17 rfl ?_
    refine ab_iconst (pc2 := 19) (v := 2) dX12_element_18 rfl ab_k_iconst_2 ?_
    refine ab_icmp_ne (tgt := 40) (pc2 := 22) dX12_element_19 (by decide) rfl hf (fun c7 hf => ?_) (fun c7 hf => ?_)
    · refine ab_iconst (pc2 := 41) (v := 2) dX12_element_40 rfl ab_k_iconst_2 ?_
      refine ab_goto (tgt := 45) dX12_element_41 (by decide) ?_
      have hf := ab_let_e hf
      refine ab_putI (pc2 := 48) rfl ht0 fa_X12_61 (Or.inl rfl) (fun z => by cases z) dX12_element_45 rfl ?_
      refine ab_aload_n (x := _) (pc2 := 49) dX12_element_48 rfl rfl ?_
      refine ab_getI (pc2 := 52) rfl ht0 fa_X12_61 (by decide) dX12_element_49 rfl ?_
      refine ab_if_ne (tgt := 70) (pc2 := 55) dX12_element_52 (by decide) rfl hf (fun c9 hf => ?_) (fun c9 hf => ?_)
      · refine ab_lconst (pc2 := 71) (v := 0) dX12_element_70 rfl rfl ?_
        cases Option.some.inj hf
        exact ab_retL dX12_element_71 rfl (Nat.le_refl _) (Nat.le_refl _) ⟨rfl, rfl⟩
      · refine ab_aload_n (x := _) (pc2 := 56) dX12_element_55 rfl rfl ?_
        refine ab_getR (pc2 := 59) rfl ht0 fa_X12_28 dX12_element_56 rfl (fun T10 => ?_)
        refine ab_bipush (pc2 := 61) (v := 100) dX12_element_59 rfl ab_k_bipush_100 ?_
        refine ab_iload_n (pc2 := 62) dX12_element_61 rfl rfl ?_
        refine ab_imul (pc2 := 63) dX12_element_62 rfl ?_
        refine ab_iload_n (pc2 := 64) dX12_element_63 rfl rfl ?_
        refine ab_iadd (pc2 := 65) dX12_element_64 rfl ?_
        obtain ⟨q11, hq11, hf⟩ := ab_bind hf
        obtain ⟨b12, hf⟩ := ab_guard hf
        refine ab_iald (pc2 := 66) hq11 (T10 q11 hq11) (ab_in_vp b12) dX12_element_65 rfl ?_
        refine ab_i2l (pc2 := 67) dX12_element_66 rfl ?_
        refine ab_goto (tgt := 71) dX12_element_67 (by decide) ?_
        cases Option.some.inj hf
        exact ab_retL dX12_element_71 rfl (Nat.le_refl _) (Nat.le_refl _) ⟨rfl, rfl⟩
    · refine ab_iload_n (pc2 := 23) dX12_element_22 rfl rfl ?_
      refine ab_i2l (pc2 := 24) dX12_element_23 rfl ?_
      refine ab_lconst (pc2 := 25) (v := 0) dX12_element_24 rfl rfl ?_
      refine ab_aload_n (x := _) (pc2 := 26) dX12_element_25 rfl rfl ?_
      refine ab_getR (pc2 := 29) rfl ht0 fa_X12_25 dX12_element_26 rfl (fun T13 => ?_)
      refine ab_iload_n (pc2 := 30) dX12_element_29 rfl rfl ?_
      obtain ⟨q14, hq14, hf⟩ := ab_bind hf
      obtain ⟨b15, hf⟩ := ab_guard hf
      refine ab_iald (pc2 := 31) hq14 (T13 q14 hq14) (ab_in_vp b15) dX12_element_30 rfl ?_
      refine ab_iconst (pc2 := 32) (v := 1) dX12_element_31 rfl ab_k_iconst_1 ?_
      refine ab_isub (pc2 := 33) dX12_element_32 rfl ?_
      refine ab_i2l (pc2 := 34) dX12_element_33 rfl ?_
      obtain ⟨w16, ew16, hf⟩ := ab_bind hf
      refine ab_callS (pc2 := 37) (st := [_]) (m_X12_isIn (d := (d + 1)) ew16) mf_X12_isIn tw_101 tw_102 dX12_element_34 rfl (by omega) (Nat.le_refl _) (Nat.le_refl _) rfl (Nat.le_of_ble_eq_true rfl) (fun v u hp => ?_)
      obtain ⟨rfl, rfl, z17⟩ := hp
      show ab_T _ _ _ _ 0 0 37 _ (.int _ :: [_]) _ _
      refine ab_if_ne (tgt := 44) (pc2 := 40) dX12_element_37 (by decide) rfl hf (fun c18 hf => ?_) (fun c18 hf => ?_)
      · refine ab_iconst (pc2 := 45) (v := 0) dX12_element_44 rfl ab_k_iconst_0 ?_
        have hf := ab_let_e hf
        refine ab_putI (pc2 := 48) rfl ht0 fa_X12_61 (Or.inl rfl) (fun z => by cases z) dX12_element_45 rfl ?_
        refine ab_aload_n (x := _) (pc2 := 49) dX12_element_48 rfl rfl ?_
        refine ab_getI (pc2 := 52) rfl ht0 fa_X12_61 (by decide) dX12_element_49 rfl ?_
        refine ab_if_ne (tgt := 70) (pc2 := 55) dX12_element_52 (by decide) rfl hf (fun c20 hf => ?_) (fun c20 hf => ?_)
        · refine ab_lconst (pc2 := 71) (v := 0) dX12_element_70 rfl rfl ?_
          cases Option.some.inj hf
          exact ab_retL dX12_element_71 rfl (Nat.le_refl _) (Nat.le_refl _) ⟨rfl, rfl⟩
        · refine ab_aload_n (x := _) (pc2 := 56) dX12_element_55 rfl rfl ?_
          refine ab_getR (pc2 := 59) rfl ht0 fa_X12_28 dX12_element_56 rfl (fun T21 => ?_)
          refine ab_bipush (pc2 := 61) (v := 100) dX12_element_59 rfl ab_k_bipush_100 ?_
          refine ab_iload_n (pc2 := 62) dX12_element_61 rfl rfl ?_
          refine ab_imul (pc2 := 63) dX12_element_62 rfl ?_
          refine ab_iload_n (pc2 := 64) dX12_element_63 rfl rfl ?_
          refine ab_iadd (pc2 := 65) dX12_element_64 rfl ?_
          obtain ⟨q22, hq22, hf⟩ := ab_bind hf
          obtain ⟨b23, hf⟩ := ab_guard hf
          refine ab_iald (pc2 := 66) hq22 (T21 q22 hq22) (ab_in_vp b23) dX12_element_65 rfl ?_
          refine ab_i2l (pc2 := 67) dX12_element_66 rfl ?_
          refine ab_goto (tgt := 71) dX12_element_67 (by decide) ?_
          cases Option.some.inj hf
          exact ab_retL dX12_element_71 rfl (Nat.le_refl _) (Nat.le_refl _) ⟨rfl, rfl⟩
      · refine ab_iconst (pc2 := 41) (v := 2) dX12_element_40 rfl ab_k_iconst_2 ?_
        refine ab_goto (tgt := 45) dX12_element_41 (by decide) ?_
        have hf := ab_let_e hf
        refine ab_putI (pc2 := 48) rfl ht0 fa_X12_61 (Or.inl rfl) (fun z => by cases z) dX12_element_45 rfl ?_
        refine ab_aload_n (x := _) (pc2 := 49) dX12_element_48 rfl rfl ?_
        refine ab_getI (pc2 := 52) rfl ht0 fa_X12_61 (by decide) dX12_element_49 rfl ?_
        refine ab_if_ne (tgt := 70) (pc2 := 55) dX12_element_52 (by decide) rfl hf (fun c25 hf => ?_) (fun c25 hf => ?_)
        · refine ab_lconst (pc2 := 71) (v := 0) dX12_element_70 rfl rfl ?_
          cases Option.some.inj hf
          exact ab_retL dX12_element_71 rfl (Nat.le_refl _) (Nat.le_refl _) ⟨rfl, rfl⟩
        · refine ab_aload_n (x := _) (pc2 := 56) dX12_element_55 rfl rfl ?_
          refine ab_getR (pc2 := 59) rfl ht0 fa_X12_28 dX12_element_56 rfl (fun T26 => ?_)
          refine ab_bipush (pc2 := 61) (v := 100) dX12_element_59 rfl ab_k_bipush_100 ?_
          refine ab_iload_n (pc2 := 62) dX12_element_61 rfl rfl ?_
          refine ab_imul (pc2 := 63) dX12_element_62 rfl ?_
          refine ab_iload_n (pc2 := 64) dX12_element_63 rfl rfl ?_
          refine ab_iadd (pc2 := 65) dX12_element_64 rfl ?_
          obtain ⟨q27, hq27, hf⟩ := ab_bind hf
          obtain ⟨b28, hf⟩ := ab_guard hf
          refine ab_iald (pc2 := 66) hq27 (T26 q27 hq27) (ab_in_vp b28) dX12_element_65 rfl ?_
          refine ab_i2l (pc2 := 67) dX12_element_66 rfl ?_
          refine ab_goto (tgt := 71) dX12_element_67 (by decide) ?_
          cases Option.some.inj hf
          exact ab_retL dX12_element_71 rfl (Nat.le_refl _) (Nat.le_refl _) ⟨rfl, rfl⟩
  · refine ab_iconst (pc2 := 9) (v := 1) dX12_element_8 rfl ab_k_iconst_1 ?_
    refine ab_goto (tgt := 45) dX12_element_9 (by decide) ?_
    have hf := ab_let_e hf
    refine ab_putI (pc2 := 48) rfl ht0 fa_X12_61 (Or.inl rfl) (fun z => by cases z) dX12_element_45 rfl ?_
    refine ab_aload_n (x := _) (pc2 := 49) dX12_element_48 rfl rfl ?_
    refine ab_getI (pc2 := 52) rfl ht0 fa_X12_61 (by decide) dX12_element_49 rfl ?_
    refine ab_if_ne (tgt := 70) (pc2 := 55) dX12_element_52 (by decide) rfl hf (fun c30 hf => ?_) (fun c30 hf => ?_)
    · refine ab_lconst (pc2 := 71) (v := 0) dX12_element_70 rfl rfl ?_
      cases Option.some.inj hf
      exact ab_retL dX12_element_71 rfl (Nat.le_refl _) (Nat.le_refl _) ⟨rfl, rfl⟩
    · refine ab_aload_n (x := _) (pc2 := 56) dX12_element_55 rfl rfl ?_
      refine ab_getR (pc2 := 59) rfl ht0 fa_X12_28 dX12_element_56 rfl (fun T31 => ?_)
      refine ab_bipush (pc2 := 61) (v := 100) dX12_element_59 rfl ab_k_bipush_100 ?_
      refine ab_iload_n (pc2 := 62) dX12_element_61 rfl rfl ?_
      refine ab_imul (pc2 := 63) dX12_element_62 rfl ?_
      refine ab_iload_n (pc2 := 64) dX12_element_63 rfl rfl ?_
      refine ab_iadd (pc2 := 65) dX12_element_64 rfl ?_
      obtain ⟨q32, hq32, hf⟩ := ab_bind hf
      obtain ⟨b33, hf⟩ := ab_guard hf
      refine ab_iald (pc2 := 66) hq32 (T31 q32 hq32) (ab_in_vp b33) dX12_element_65 rfl ?_
      refine ab_i2l (pc2 := 67) dX12_element_66 rfl ?_
      refine ab_goto (tgt := 71) dX12_element_67 (by decide) ?_
      cases Option.some.inj hf
      exact ab_retL dX12_element_71 rfl (Nat.le_refl _) (Nat.le_refl _) ⟨rfl, rfl⟩
set_option maxHeartbeats 4000000 in
set_option maxRecDepth 100000 in
theorem m_X12_element {d : Nat} {t0 : Nat} {i1 : Int32} {i2 : Int32} {h : ab_HP} {r : (Int64 × ab_HP)} (ht0 : (ab_shp t0).1 = 5) (hf : f_X12_element t0 i1 i2 h = some r) : ab_MET mX12_element (d + 2) 0 0 [va_rf (some t0), .int i1, .int i2] h (ab_Pl r.1 r.2) := ab_met (by decide +kernel) (by decide +kernel) (Nat.le_of_ble_eq_true rfl) rfl (x_X12_element ht0 hf)
set_option maxHeartbeats 4000000 in
set_option maxRecDepth 100000 in
theorem x_X12_thrown {d : Nat} {t0 : Nat} {h : ab_HP} {r : Int32} (ht0 : (ab_shp t0).1 = 5) (hf : f_X12_thrown t0 h = some r) : ab_T mX12_thrown (d + 0) 0 0 0 0 0 [some (va_rf (some t0))] [] h (ab_Pi r h) := by
  unfold f_X12_thrown at hf
  refine ab_aload_n (x := _) (pc2 := 1) dX12_thrown_0 rfl rfl ?_
  refine ab_getI (pc2 := 4) rfl ht0 fa_X12_61 (by decide) dX12_thrown_1 rfl ?_
  cases Option.some.inj hf
  exact ab_retI dX12_thrown_4 (Or.inl rfl) (Nat.le_refl _) (Nat.le_refl _) ⟨rfl, rfl⟩
set_option maxHeartbeats 4000000 in
set_option maxRecDepth 100000 in
theorem m_X12_thrown {d : Nat} {t0 : Nat} {h : ab_HP} {r : Int32} (ht0 : (ab_shp t0).1 = 5) (hf : f_X12_thrown t0 h = some r) : ab_MET mX12_thrown (d + 0) 0 0 [va_rf (some t0)] h (ab_Pi r h) := ab_met (by decide +kernel) (by decide +kernel) (Nat.le_of_ble_eq_true rfl) rfl (x_X12_thrown ht0 hf)
set_option maxHeartbeats 4000000 in
set_option maxRecDepth 100000 in
theorem x_X12_copy_l122 {d : Nat} {t0 : Nat} {r : (Int32 × ab_HP)} (ht0 : (ab_shp t0).1 = 5) : ∀ (n : Nat) (i1 : Int32) (i2 : Int32) (i3 : Int32) (i4 : Int32) (i5 : Int32) (i6 : Int32) (h : ab_HP), f_X12_copy_l122 t0 n i1 i2 i3 i4 i5 i6 h = some r → ab_T mX12_copy (d + 2) 0 0 0 0 122 [some (va_rf (some t0)), some (.int i1), some (.int i2), some (.int i3), some (.int i4), some (.int i5), some (.int i6), none] [] h (ab_Pi r.1 r.2) := by
  intro n
  induction n with
  | zero =>
    intro i1 i2 i3 i4 i5 i6 h hf
    rw [f_X12_copy_l122] at hf
    cases hf
  | succ n ih =>
    intro i1 i2 i3 i4 i5 i6 h hf
    rw [f_X12_copy_l122] at hf
    refine ab_iload (pc2 := 124) dX12_copy_122 rfl rfl ?_
    refine ab_iload (pc2 := 126) dX12_copy_124 rfl rfl ?_
    refine ab_icmp_ge (tgt := 184) (pc2 := 129) dX12_copy_126 (by decide) rfl hf (fun c41 hf => ?_) (fun c41 hf => ?_)
    · refine ab_iload (pc2 := 186) dX12_copy_184 rfl rfl ?_
      cases Option.some.inj hf
      exact ab_retI dX12_copy_186 (Or.inl rfl) (Nat.le_refl _) (Nat.le_refl _) ⟨rfl, rfl⟩
    · refine ab_iload_n (pc2 := 130) dX12_copy_129 rfl rfl ?_
      refine ab_iload (pc2 := 132) dX12_copy_130 rfl rfl ?_
      refine ab_icmp_le (tgt := 140) (pc2 := 135) dX12_copy_132 (by decide) rfl hf (fun c42 hf => ?_) (fun c42 hf => ?_)
      · refine ab_iload (pc2 := 142) dX12_copy_140 rfl rfl ?_
        refine ab_iconst (pc2 := 143) (v := 1) dX12_copy_142 rfl ab_k_iconst_1 ?_
        refine ab_isub (pc2 := 144) dX12_copy_143 rfl ?_
        refine ab_iload (pc2 := 146) dX12_copy_144 rfl rfl ?_
        refine ab_isub (pc2 := 147) dX12_copy_146 rfl ?_
        refine ab_istore (pc2 := 149) (lo2 := [some (va_rf _), some (.int _), some (.int _), some (.int _), some (.int _), some (.int _), some (.int _), some (.int _)]) dX12_copy_147 rfl (by decide) rfl ?_
        refine ab_aload_n (x := _) (pc2 := 150) dX12_copy_149 rfl rfl ?_
        refine ab_getR (pc2 := 153) rfl ht0 fa_X12_28 dX12_copy_150 rfl (fun T43 => ?_)
        refine ab_bipush (pc2 := 155) (v := 100) dX12_copy_153 rfl ab_k_bipush_100 ?_
        refine ab_iload_n (pc2 := 156) dX12_copy_155 rfl rfl ?_
        refine ab_imul (pc2 := 157) dX12_copy_156 rfl ?_
        refine ab_iload (pc2 := 159) dX12_copy_157 rfl rfl ?_
        refine ab_iadd (pc2 := 160) dX12_copy_159 rfl ?_
        refine ab_iload (pc2 := 162) dX12_copy_160 rfl rfl ?_
        refine ab_iadd (pc2 := 163) dX12_copy_162 rfl ?_
        refine ab_aload_n (x := _) (pc2 := 164) dX12_copy_163 rfl rfl ?_
        refine ab_getR (pc2 := 167) rfl ht0 fa_X12_28 dX12_copy_164 rfl (fun T44 => ?_)
        refine ab_bipush (pc2 := 169) (v := 100) dX12_copy_167 rfl ab_k_bipush_100 ?_
        refine ab_iload_n (pc2 := 170) dX12_copy_169 rfl rfl ?_
        refine ab_imul (pc2 := 171) dX12_copy_170 rfl ?_
        refine ab_iload_n (pc2 := 172) dX12_copy_171 rfl rfl ?_
        refine ab_iadd (pc2 := 173) dX12_copy_172 rfl ?_
        refine ab_iload (pc2 := 175) dX12_copy_173 rfl rfl ?_
        refine ab_iadd (pc2 := 176) dX12_copy_175 rfl ?_
        obtain ⟨q45, hq45, hf⟩ := ab_bind hf
        obtain ⟨b46, hf⟩ := ab_guard hf
        refine ab_iald (pc2 := 177) hq45 (T44 q45 hq45) (ab_in_vp b46) dX12_copy_176 rfl ?_
        obtain ⟨b47, hf⟩ := ab_guard hf
        have hf := ab_let_e hf
        refine ab_iast (pc2 := 178) hq45 (T44 q45 hq45) (ab_in_vp b47) dX12_copy_177 rfl ?_
        refine ab_iinc (pc2 := 181) (v := _ + 1) (lo2 := [some (va_rf _), some (.int _), some (.int _), some (.int _), some (.int _), some (.int _), some (.int _), some (.int _)]) dX12_copy_178 rfl rfl rfl (by decide) rfl ?_
        refine ab_goto (tgt := 122) dX12_copy_181 (by decide) ?_
        exact ab_weak (ih _ _ _ _ _ _ _ hf) (ab_leS (ab_leS (ab_leS (ab_leS (ab_leS (ab_leS (ab_leS (ab_leN ab_le0))))))))
      · refine ab_iload (pc2 := 137) dX12_copy_135 rfl rfl ?_
        refine ab_goto (tgt := 147) dX12_copy_137 (by decide) ?_
        refine ab_istore (pc2 := 149) (lo2 := [some (va_rf _), some (.int _), some (.int _), some (.int _), some (.int _), some (.int _), some (.int _), some (.int _)]) dX12_copy_147 rfl (by decide) rfl ?_
        refine ab_aload_n (x := _) (pc2 := 150) dX12_copy_149 rfl rfl ?_
        refine ab_getR (pc2 := 153) rfl ht0 fa_X12_28 dX12_copy_150 rfl (fun T49 => ?_)
        refine ab_bipush (pc2 := 155) (v := 100) dX12_copy_153 rfl ab_k_bipush_100 ?_
        refine ab_iload_n (pc2 := 156) dX12_copy_155 rfl rfl ?_
        refine ab_imul (pc2 := 157) dX12_copy_156 rfl ?_
        refine ab_iload (pc2 := 159) dX12_copy_157 rfl rfl ?_
        refine ab_iadd (pc2 := 160) dX12_copy_159 rfl ?_
        refine ab_iload (pc2 := 162) dX12_copy_160 rfl rfl ?_
        refine ab_iadd (pc2 := 163) dX12_copy_162 rfl ?_
        refine ab_aload_n (x := _) (pc2 := 164) dX12_copy_163 rfl rfl ?_
        refine ab_getR (pc2 := 167) rfl ht0 fa_X12_28 dX12_copy_164 rfl (fun T50 => ?_)
        refine ab_bipush (pc2 := 169) (v := 100) dX12_copy_167 rfl ab_k_bipush_100 ?_
        refine ab_iload_n (pc2 := 170) dX12_copy_169 rfl rfl ?_
        refine ab_imul (pc2 := 171) dX12_copy_170 rfl ?_
        refine ab_iload_n (pc2 := 172) dX12_copy_171 rfl rfl ?_
        refine ab_iadd (pc2 := 173) dX12_copy_172 rfl ?_
        refine ab_iload (pc2 := 175) dX12_copy_173 rfl rfl ?_
        refine ab_iadd (pc2 := 176) dX12_copy_175 rfl ?_
        obtain ⟨q51, hq51, hf⟩ := ab_bind hf
        obtain ⟨b52, hf⟩ := ab_guard hf
        refine ab_iald (pc2 := 177) hq51 (T50 q51 hq51) (ab_in_vp b52) dX12_copy_176 rfl ?_
        obtain ⟨b53, hf⟩ := ab_guard hf
        have hf := ab_let_e hf
        refine ab_iast (pc2 := 178) hq51 (T50 q51 hq51) (ab_in_vp b53) dX12_copy_177 rfl ?_
        refine ab_iinc (pc2 := 181) (v := _ + 1) (lo2 := [some (va_rf _), some (.int _), some (.int _), some (.int _), some (.int _), some (.int _), some (.int _), some (.int _)]) dX12_copy_178 rfl rfl rfl (by decide) rfl ?_
        refine ab_goto (tgt := 122) dX12_copy_181 (by decide) ?_
        exact ab_weak (ih _ _ _ _ _ _ _ hf) (ab_leS (ab_leS (ab_leS (ab_leS (ab_leS (ab_leS (ab_leS (ab_leN ab_le0))))))))
set_option maxHeartbeats 4000000 in
set_option maxRecDepth 100000 in
theorem x_X12_copy {d : Nat} {t0 : Nat} {i1 : Int32} {i2 : Int32} {i3 : Int32} {i4 : Int32} {i5 : Int32} {h : ab_HP} {r : (Int32 × ab_HP)} (ht0 : (ab_shp t0).1 = 5) (hf : f_X12_copy t0 i1 i2 i3 i4 i5 h = some r) : ab_T mX12_copy (d + 2) 0 0 0 0 0 [some (va_rf (some t0)), some (.int i1), some (.int i2), some (.int i3), some (.int i4), some (.int i5), none, none] [] h (ab_Pi r.1 r.2) := by
  unfold f_X12_copy at hf
  refine ab_iload_n (pc2 := 1) dX12_copy_0 rfl rfl ?_
  obtain ⟨w1, ew1, hf⟩ := ab_bind hf
  refine ab_callS (pc2 := 4) (st := []) (m_X12_isShelf (d := (d + 0)) ew1) mf_X12_isShelf tw_103 tw_104 dX12_copy_1 rfl (by omega) (Nat.le_refl _) (Nat.le_refl _) rfl (Nat.le_of_ble_eq_true rfl) (fun v u hp => ?_)
  obtain ⟨rfl, rfl, z2⟩ := hp
  show ab_T _ _ _ _ 0 0 4 _ (.int _ :: []) _ _
  refine ab_if_eq (tgt := 14) (pc2 := 7) dX12_copy_4 (by decide) rfl hf (fun c3 hf => ?_) (fun c3 hf => ?_)
  · refine ab_iconst (pc2 := 15) (v := (-1)) dX12_copy_14 rfl ab_k_iconst_m1 ?_
    cases Option.some.inj hf
    exact ab_retI dX12_copy_15 (Or.inl rfl) (Nat.le_refl _) (Nat.le_refl _) ⟨rfl, rfl⟩
  · refine ab_iload_n (pc2 := 8) dX12_copy_7 rfl rfl ?_
    obtain ⟨w4, ew4, hf⟩ := ab_bind hf
    refine ab_callS (pc2 := 11) (st := []) (m_X12_isShelf (d := (d + 0)) ew4) mf_X12_isShelf tw_103 tw_104 dX12_copy_8 rfl (by omega) (Nat.le_refl _) (Nat.le_refl _) rfl (Nat.le_of_ble_eq_true rfl) (fun v u hp => ?_)
    obtain ⟨rfl, rfl, z5⟩ := hp
    show ab_T _ _ _ _ 0 0 11 _ (.int _ :: []) _ _
    refine ab_if_ne (tgt := 16) (pc2 := 14) dX12_copy_11 (by decide) rfl hf (fun c6 hf => ?_) (fun c6 hf => ?_)
    · refine ab_aload_n (x := _) (pc2 := 17) dX12_copy_16 rfl rfl ?_
      refine ab_getR (pc2 := 20) rfl ht0 fa_X12_19 dX12_copy_17 rfl (fun T7 => ?_)
      refine ab_iload_n (pc2 := 21) dX12_copy_20 rfl rfl ?_
      obtain ⟨q8, hq8, hf⟩ := ab_bind hf
      obtain ⟨b9, hf⟩ := ab_guard hf
      refine ab_iald (pc2 := 22) hq8 (T7 q8 hq8) (ab_in_vp b9) dX12_copy_21 rfl ?_
      refine ab_if_eq (tgt := 34) (pc2 := 25) dX12_copy_22 (by decide) rfl hf (fun c10 hf => ?_) (fun c10 hf => ?_)
      · refine ab_bipush (pc2 := 36) (v := (-11)) dX12_copy_34 rfl ab_k_bipush_m11 ?_
        cases Option.some.inj hf
        exact ab_retI dX12_copy_36 (Or.inl rfl) (Nat.le_refl _) (Nat.le_refl _) ⟨rfl, rfl⟩
      · refine ab_aload_n (x := _) (pc2 := 26) dX12_copy_25 rfl rfl ?_
        refine ab_getR (pc2 := 29) rfl ht0 fa_X12_19 dX12_copy_26 rfl (fun T11 => ?_)
        refine ab_iload_n (pc2 := 30) dX12_copy_29 rfl rfl ?_
        obtain ⟨q12, hq12, hf⟩ := ab_bind hf
        obtain ⟨b13, hf⟩ := ab_guard hf
        refine ab_iald (pc2 := 31) hq12 (T11 q12 hq12) (ab_in_vp b13) dX12_copy_30 rfl ?_
        refine ab_if_ne (tgt := 37) (pc2 := 34) dX12_copy_31 (by decide) rfl hf (fun c14 hf => ?_) (fun c14 hf => ?_)
        · refine ab_aload_n (x := _) (pc2 := 38) dX12_copy_37 rfl rfl ?_
          refine ab_getR (pc2 := 41) rfl ht0 fa_X12_19 dX12_copy_38 rfl (fun T15 => ?_)
          refine ab_iload_n (pc2 := 42) dX12_copy_41 rfl rfl ?_
          obtain ⟨q16, hq16, hf⟩ := ab_bind hf
          obtain ⟨b17, hf⟩ := ab_guard hf
          refine ab_iald (pc2 := 43) hq16 (T15 q16 hq16) (ab_in_vp b17) dX12_copy_42 rfl ?_
          refine ab_iconst (pc2 := 44) (v := 2) dX12_copy_43 rfl ab_k_iconst_2 ?_
          refine ab_icmp_ne (tgt := 72) (pc2 := 47) dX12_copy_44 (by decide) rfl hf (fun c18 hf => ?_) (fun c18 hf => ?_)
          · refine ab_bipush (pc2 := 74) (v := (-12)) dX12_copy_72 rfl ab_k_bipush_m12 ?_
            cases Option.some.inj hf
            exact ab_retI dX12_copy_74 (Or.inl rfl) (Nat.le_refl _) (Nat.le_refl _) ⟨rfl, rfl⟩
          · refine ab_aload_n (x := _) (pc2 := 48) dX12_copy_47 rfl rfl ?_
            refine ab_getR (pc2 := 51) rfl ht0 fa_X12_19 dX12_copy_48 rfl (fun T19 => ?_)
            refine ab_iload_n (pc2 := 52) dX12_copy_51 rfl rfl ?_
            obtain ⟨q20, hq20, hf⟩ := ab_bind hf
            obtain ⟨b21, hf⟩ := ab_guard hf
            refine ab_iald (pc2 := 53) hq20 (T19 q20 hq20) (ab_in_vp b21) dX12_copy_52 rfl ?_
            refine ab_iconst (pc2 := 54) (v := 2) dX12_copy_53 rfl ab_k_iconst_2 ?_
            refine ab_icmp_ne (tgt := 72) (pc2 := 57) dX12_copy_54 (by decide) rfl hf (fun c22 hf => ?_) (fun c22 hf => ?_)
            · refine ab_bipush (pc2 := 74) (v := (-12)) dX12_copy_72 rfl ab_k_bipush_m12 ?_
              cases Option.some.inj hf
              exact ab_retI dX12_copy_74 (Or.inl rfl) (Nat.le_refl _) (Nat.le_refl _) ⟨rfl, rfl⟩
            · refine ab_aload_n (x := _) (pc2 := 58) dX12_copy_57 rfl rfl ?_
              refine ab_getR (pc2 := 61) rfl ht0 fa_X12_22 dX12_copy_58 rfl (fun T23 => ?_)
              refine ab_iload_n (pc2 := 62) dX12_copy_61 rfl rfl ?_
              obtain ⟨q24, hq24, hf⟩ := ab_bind hf
              obtain ⟨b25, hf⟩ := ab_guard hf
              refine ab_iald (pc2 := 63) hq24 (T23 q24 hq24) (ab_in_vp b25) dX12_copy_62 rfl ?_
              refine ab_aload_n (x := _) (pc2 := 64) dX12_copy_63 rfl rfl ?_
              refine ab_getR (pc2 := 67) rfl ht0 fa_X12_22 dX12_copy_64 rfl (fun T26 => ?_)
              refine ab_iload_n (pc2 := 68) dX12_copy_67 rfl rfl ?_
              obtain ⟨q27, hq27, hf⟩ := ab_bind hf
              obtain ⟨b28, hf⟩ := ab_guard hf
              refine ab_iald (pc2 := 69) hq27 (T26 q27 hq27) (ab_in_vp b28) dX12_copy_68 rfl ?_
              refine ab_icmp_eq (tgt := 75) (pc2 := 72) dX12_copy_69 (by decide) rfl hf (fun c29 hf => ?_) (fun c29 hf => ?_)
              · refine ab_iload (pc2 := 77) dX12_copy_75 rfl rfl ?_
                refine ab_if_lt (tgt := 116) (pc2 := 80) dX12_copy_77 (by decide) rfl hf (fun c30 hf => ?_) (fun c30 hf => ?_)
                · refine ab_bipush (pc2 := 118) (v := (-13)) dX12_copy_116 rfl ab_k_bipush_m13 ?_
                  cases Option.some.inj hf
                  exact ab_retI dX12_copy_118 (Or.inl rfl) (Nat.le_refl _) (Nat.le_refl _) ⟨rfl, rfl⟩
                · refine ab_iload_n (pc2 := 81) dX12_copy_80 rfl rfl ?_
                  refine ab_if_lt (tgt := 116) (pc2 := 84) dX12_copy_81 (by decide) rfl hf (fun c31 hf => ?_) (fun c31 hf => ?_)
                  · refine ab_bipush (pc2 := 118) (v := (-13)) dX12_copy_116 rfl ab_k_bipush_m13 ?_
                    cases Option.some.inj hf
                    exact ab_retI dX12_copy_118 (Or.inl rfl) (Nat.le_refl _) (Nat.le_refl _) ⟨rfl, rfl⟩
                  · refine ab_iload (pc2 := 86) dX12_copy_84 rfl rfl ?_
                    refine ab_if_lt (tgt := 116) (pc2 := 89) dX12_copy_86 (by decide) rfl hf (fun c32 hf => ?_) (fun c32 hf => ?_)
                    · refine ab_bipush (pc2 := 118) (v := (-13)) dX12_copy_116 rfl ab_k_bipush_m13 ?_
                      cases Option.some.inj hf
                      exact ab_retI dX12_copy_118 (Or.inl rfl) (Nat.le_refl _) (Nat.le_refl _) ⟨rfl, rfl⟩
                    · refine ab_iload (pc2 := 91) dX12_copy_89 rfl rfl ?_
                      refine ab_aload_n (x := _) (pc2 := 92) dX12_copy_91 rfl rfl ?_
                      refine ab_getR (pc2 := 95) rfl ht0 fa_X12_25 dX12_copy_92 rfl (fun T33 => ?_)
                      refine ab_iload_n (pc2 := 96) dX12_copy_95 rfl rfl ?_
                      obtain ⟨q34, hq34, hf⟩ := ab_bind hf
                      obtain ⟨b35, hf⟩ := ab_guard hf
                      refine ab_iald (pc2 := 97) hq34 (T33 q34 hq34) (ab_in_vp b35) dX12_copy_96 rfl ?_
                      refine ab_iload_n (pc2 := 98) dX12_copy_97 rfl rfl ?_
                      refine ab_isub (pc2 := 99) dX12_copy_98 rfl ?_
                      refine ab_icmp_gt (tgt := 116) (pc2 := 102) dX12_copy_99 (by decide) rfl hf (fun c36 hf => ?_) (fun c36 hf => ?_)
                      · refine ab_bipush (pc2 := 118) (v := (-13)) dX12_copy_116 rfl ab_k_bipush_m13 ?_
                        cases Option.some.inj hf
                        exact ab_retI dX12_copy_118 (Or.inl rfl) (Nat.le_refl _) (Nat.le_refl _) ⟨rfl, rfl⟩
                      · refine ab_iload (pc2 := 104) dX12_copy_102 rfl rfl ?_
                        refine ab_aload_n (x := _) (pc2 := 105) dX12_copy_104 rfl rfl ?_
                        refine ab_getR (pc2 := 108) rfl ht0 fa_X12_25 dX12_copy_105 rfl (fun T37 => ?_)
                        refine ab_iload_n (pc2 := 109) dX12_copy_108 rfl rfl ?_
                        obtain ⟨q38, hq38, hf⟩ := ab_bind hf
                        obtain ⟨b39, hf⟩ := ab_guard hf
                        refine ab_iald (pc2 := 110) hq38 (T37 q38 hq38) (ab_in_vp b39) dX12_copy_109 rfl ?_
                        refine ab_iload (pc2 := 112) dX12_copy_110 rfl rfl ?_
                        refine ab_isub (pc2 := 113) dX12_copy_112 rfl ?_
                        refine ab_icmp_le (tgt := 119) (pc2 := 116) dX12_copy_113 (by decide) rfl hf (fun c40 hf => ?_) (fun c40 hf => ?_)
                        · refine ab_iconst (pc2 := 120) (v := 0) dX12_copy_119 rfl ab_k_iconst_0 ?_
                          refine ab_istore (pc2 := 122) (lo2 := [some (va_rf _), some (.int _), some (.int _), some (.int _), some (.int _), some (.int _), some (.int _), none]) dX12_copy_120 rfl (by decide) rfl ?_
                          exact ab_weak (x_X12_copy_l122 ht0 _ _ _ _ _ _ _ _ hf) (ab_leS (ab_leS (ab_leS (ab_leS (ab_leS (ab_leS (ab_leS (ab_leN ab_le0))))))))
                        · refine ab_bipush (pc2 := 118) (v := (-13)) dX12_copy_116 rfl ab_k_bipush_m13 ?_
                          cases Option.some.inj hf
                          exact ab_retI dX12_copy_118 (Or.inl rfl) (Nat.le_refl _) (Nat.le_refl _) ⟨rfl, rfl⟩
              · refine ab_bipush (pc2 := 74) (v := (-12)) dX12_copy_72 rfl ab_k_bipush_m12 ?_
                cases Option.some.inj hf
                exact ab_retI dX12_copy_74 (Or.inl rfl) (Nat.le_refl _) (Nat.le_refl _) ⟨rfl, rfl⟩
        · refine ab_bipush (pc2 := 36) (v := (-11)) dX12_copy_34 rfl ab_k_bipush_m11 ?_
          cases Option.some.inj hf
          exact ab_retI dX12_copy_36 (Or.inl rfl) (Nat.le_refl _) (Nat.le_refl _) ⟨rfl, rfl⟩
    · refine ab_iconst (pc2 := 15) (v := (-1)) dX12_copy_14 rfl ab_k_iconst_m1 ?_
      cases Option.some.inj hf
      exact ab_retI dX12_copy_15 (Or.inl rfl) (Nat.le_refl _) (Nat.le_refl _) ⟨rfl, rfl⟩
set_option maxHeartbeats 4000000 in
set_option maxRecDepth 100000 in
theorem m_X12_copy {d : Nat} {t0 : Nat} {i1 : Int32} {i2 : Int32} {i3 : Int32} {i4 : Int32} {i5 : Int32} {h : ab_HP} {r : (Int32 × ab_HP)} (ht0 : (ab_shp t0).1 = 5) (hf : f_X12_copy t0 i1 i2 i3 i4 i5 h = some r) : ab_MET mX12_copy (d + 2) 0 0 [va_rf (some t0), .int i1, .int i2, .int i3, .int i4, .int i5] h (ab_Pi r.1 r.2) := ab_met (by decide +kernel) (by decide +kernel) (Nat.le_of_ble_eq_true rfl) rfl (x_X12_copy ht0 hf)
set_option maxHeartbeats 4000000 in
set_option maxRecDepth 100000 in
theorem x_X12_wrongKept {d : Nat} {t0 : Nat} {i1 : Int32} {h : ab_HP} {r : Int32} (ht0 : (ab_shp t0).1 = 5) (hf : f_X12_wrongKept t0 i1 h = some r) : ab_T mX12_wrongKept (d + 2) 0 0 0 0 0 [some (va_rf (some t0)), some (.int i1)] [] h (ab_Pi r h) := by
  unfold f_X12_wrongKept at hf
  refine ab_iload_n (pc2 := 1) dX12_wrongKept_0 rfl rfl ?_
  obtain ⟨w1, ew1, hf⟩ := ab_bind hf
  refine ab_callS (pc2 := 4) (st := []) (m_X12_isShelf (d := (d + 0)) ew1) mf_X12_isShelf tw_103 tw_104 dX12_wrongKept_1 rfl (by omega) (Nat.le_refl _) (Nat.le_refl _) rfl (Nat.le_of_ble_eq_true rfl) (fun v u hp => ?_)
  obtain ⟨rfl, rfl, z2⟩ := hp
  show ab_T _ _ _ _ 0 0 4 _ (.int _ :: []) _ _
  refine ab_if_ne (tgt := 11) (pc2 := 7) dX12_wrongKept_4 (by decide) rfl hf (fun c3 hf => ?_) (fun c3 hf => ?_)
  · refine ab_aload_n (x := _) (pc2 := 12) dX12_wrongKept_11 rfl rfl ?_
    refine ab_getR (pc2 := 15) rfl ht0 fa_X12_19 dX12_wrongKept_12 rfl (fun T4 => ?_)
    refine ab_iload_n (pc2 := 16) dX12_wrongKept_15 rfl rfl ?_
    obtain ⟨q5, hq5, hf⟩ := ab_bind hf
    obtain ⟨b6, hf⟩ := ab_guard hf
    refine ab_iald (pc2 := 17) hq5 (T4 q5 hq5) (ab_in_vp b6) dX12_wrongKept_16 rfl ?_
    refine ab_if_ne (tgt := 25) (pc2 := 20) dX12_wrongKept_17 (by decide) rfl hf (fun c7 hf => ?_) (fun c7 hf => ?_)
    · refine ab_aload_n (x := _) (pc2 := 26) dX12_wrongKept_25 rfl rfl ?_
      refine ab_getR (pc2 := 29) rfl ht0 fa_X12_19 dX12_wrongKept_26 rfl (fun T8 => ?_)
      refine ab_iload_n (pc2 := 30) dX12_wrongKept_29 rfl rfl ?_
      obtain ⟨q9, hq9, hf⟩ := ab_bind hf
      obtain ⟨b10, hf⟩ := ab_guard hf
      refine ab_iald (pc2 := 31) hq9 (T8 q9 hq9) (ab_in_vp b10) dX12_wrongKept_30 rfl ?_
      refine ab_iconst (pc2 := 32) (v := 1) dX12_wrongKept_31 rfl ab_k_iconst_1 ?_
      refine ab_icmp_ne (tgt := 39) (pc2 := 35) dX12_wrongKept_32 (by decide) rfl hf (fun c11 hf => ?_) (fun c11 hf => ?_)
      · refine ab_bipush (pc2 := 41) (v := (-12)) dX12_wrongKept_39 rfl ab_k_bipush_m12 ?_
        cases Option.some.inj hf
        exact ab_retI dX12_wrongKept_41 (Or.inl rfl) (Nat.le_refl _) (Nat.le_refl _) ⟨rfl, rfl⟩
      · refine ab_iconst (pc2 := 36) (v := 0) dX12_wrongKept_35 rfl ab_k_iconst_0 ?_
        refine ab_goto (tgt := 41) dX12_wrongKept_36 (by decide) ?_
        cases Option.some.inj hf
        exact ab_retI dX12_wrongKept_41 (Or.inl rfl) (Nat.le_refl _) (Nat.le_refl _) ⟨rfl, rfl⟩
    · refine ab_bipush (pc2 := 22) (v := (-11)) dX12_wrongKept_20 rfl ab_k_bipush_m11 ?_
      refine ab_goto (tgt := 41) dX12_wrongKept_22 (by decide) ?_
      cases Option.some.inj hf
      exact ab_retI dX12_wrongKept_41 (Or.inl rfl) (Nat.le_refl _) (Nat.le_refl _) ⟨rfl, rfl⟩
  · refine ab_iconst (pc2 := 8) (v := (-1)) dX12_wrongKept_7 rfl ab_k_iconst_m1 ?_
    refine ab_goto (tgt := 41) dX12_wrongKept_8 (by decide) ?_
    cases Option.some.inj hf
    exact ab_retI dX12_wrongKept_41 (Or.inl rfl) (Nat.le_refl _) (Nat.le_refl _) ⟨rfl, rfl⟩
set_option maxHeartbeats 4000000 in
set_option maxRecDepth 100000 in
theorem m_X12_wrongKept {d : Nat} {t0 : Nat} {i1 : Int32} {h : ab_HP} {r : Int32} (ht0 : (ab_shp t0).1 = 5) (hf : f_X12_wrongKept t0 i1 h = some r) : ab_MET mX12_wrongKept (d + 2) 0 0 [va_rf (some t0), .int i1] h (ab_Pi r h) := ab_met (by decide +kernel) (by decide +kernel) (Nat.le_of_ble_eq_true rfl) rfl (x_X12_wrongKept ht0 hf)
set_option maxHeartbeats 4000000 in
set_option maxRecDepth 100000 in
theorem x_X12_care {d : Nat} {t0 : Nat} {i1 : Int32} {h : ab_HP} {r : Int32} (ht0 : (ab_shp t0).1 = 5) (hf : f_X12_care t0 i1 h = some r) : ab_T mX12_care (d + 3) 0 0 0 0 0 [some (va_rf (some t0)), some (.int i1), none] [] h (ab_Pi r h) := by
  unfold f_X12_care at hf
  refine ab_aload_n (x := _) (pc2 := 1) dX12_care_0 rfl rfl ?_
  refine ab_iload_n (pc2 := 2) dX12_care_1 rfl rfl ?_
  obtain ⟨w1, ew1, hf⟩ := ab_bind hf
  refine ab_callV (pc2 := 5) (st := []) rfl ht0 (by decide) (m_X12_wrongKept (d := (d + 0)) ht0 ew1) mf_X12_wrongKept tw_346 tw_345 ts_X12_wrongKept (Or.inl (by decide +kernel)) dX12_care_2 rfl (by omega) (Nat.le_refl _) (Nat.le_refl _) rfl (Nat.le_of_ble_eq_true rfl) (fun v u hp => ?_)
  obtain ⟨rfl, rfl⟩ := hp
  show ab_T _ _ _ _ 0 0 5 _ (.int _ :: []) _ _
  refine ab_istore_n (pc2 := 6) (lo2 := [some (va_rf _), some (.int _), some (.int _)]) dX12_care_5 rfl (by decide) rfl ?_
  refine ab_iload_n (pc2 := 7) dX12_care_6 rfl rfl ?_
  refine ab_if_eq (tgt := 14) (pc2 := 10) dX12_care_7 (by decide) rfl hf (fun c2 hf => ?_) (fun c2 hf => ?_)
  · refine ab_aload_n (x := _) (pc2 := 15) dX12_care_14 rfl rfl ?_
    refine ab_getR (pc2 := 18) rfl ht0 fa_X12_31 dX12_care_15 rfl (fun T3 => ?_)
    refine ab_iload_n (pc2 := 19) dX12_care_18 rfl rfl ?_
    obtain ⟨q4, hq4, hf⟩ := ab_bind hf
    obtain ⟨b5, hf⟩ := ab_guard hf
    refine ab_iald (pc2 := 20) hq4 (T3 q4 hq4) (ab_in_vp b5) dX12_care_19 rfl ?_
    cases Option.some.inj hf
    exact ab_retI dX12_care_20 (Or.inl rfl) (Nat.le_refl _) (Nat.le_refl _) ⟨rfl, rfl⟩
  · refine ab_iload_n (pc2 := 11) dX12_care_10 rfl rfl ?_
    refine ab_goto (tgt := 20) dX12_care_11 (by decide) ?_
    cases Option.some.inj hf
    exact ab_retI dX12_care_20 (Or.inl rfl) (Nat.le_refl _) (Nat.le_refl _) ⟨rfl, rfl⟩
set_option maxHeartbeats 4000000 in
set_option maxRecDepth 100000 in
theorem m_X12_care {d : Nat} {t0 : Nat} {i1 : Int32} {h : ab_HP} {r : Int32} (ht0 : (ab_shp t0).1 = 5) (hf : f_X12_care t0 i1 h = some r) : ab_MET mX12_care (d + 3) 0 0 [va_rf (some t0), .int i1] h (ab_Pi r h) := ab_met (by decide +kernel) (by decide +kernel) (Nat.le_of_ble_eq_true rfl) rfl (x_X12_care ht0 hf)
set_option maxHeartbeats 4000000 in
set_option maxRecDepth 100000 in
theorem x_X12_toss {d : Nat} {t0 : Nat} {i1 : Int32} {h : ab_HP} {r : Int32} (ht0 : (ab_shp t0).1 = 5) (hf : f_X12_toss t0 i1 h = some r) : ab_T mX12_toss (d + 3) 0 0 0 0 0 [some (va_rf (some t0)), some (.int i1), none] [] h (ab_Pi r h) := by
  unfold f_X12_toss at hf
  refine ab_aload_n (x := _) (pc2 := 1) dX12_toss_0 rfl rfl ?_
  refine ab_iload_n (pc2 := 2) dX12_toss_1 rfl rfl ?_
  obtain ⟨w1, ew1, hf⟩ := ab_bind hf
  refine ab_callV (pc2 := 5) (st := []) rfl ht0 (by decide) (m_X12_wrongKept (d := (d + 0)) ht0 ew1) mf_X12_wrongKept tw_346 tw_345 ts_X12_wrongKept (Or.inl (by decide +kernel)) dX12_toss_2 rfl (by omega) (Nat.le_refl _) (Nat.le_refl _) rfl (Nat.le_of_ble_eq_true rfl) (fun v u hp => ?_)
  obtain ⟨rfl, rfl⟩ := hp
  show ab_T _ _ _ _ 0 0 5 _ (.int _ :: []) _ _
  refine ab_istore_n (pc2 := 6) (lo2 := [some (va_rf _), some (.int _), some (.int _)]) dX12_toss_5 rfl (by decide) rfl ?_
  refine ab_iload_n (pc2 := 7) dX12_toss_6 rfl rfl ?_
  refine ab_if_eq (tgt := 14) (pc2 := 10) dX12_toss_7 (by decide) rfl hf (fun c2 hf => ?_) (fun c2 hf => ?_)
  · refine ab_aload_n (x := _) (pc2 := 15) dX12_toss_14 rfl rfl ?_
    refine ab_getR (pc2 := 18) rfl ht0 fa_X12_34 dX12_toss_15 rfl (fun T3 => ?_)
    refine ab_iload_n (pc2 := 19) dX12_toss_18 rfl rfl ?_
    obtain ⟨q4, hq4, hf⟩ := ab_bind hf
    obtain ⟨b5, hf⟩ := ab_guard hf
    refine ab_iald (pc2 := 20) hq4 (T3 q4 hq4) (ab_in_vp b5) dX12_toss_19 rfl ?_
    cases Option.some.inj hf
    exact ab_retI dX12_toss_20 (Or.inl rfl) (Nat.le_refl _) (Nat.le_refl _) ⟨rfl, rfl⟩
  · refine ab_iload_n (pc2 := 11) dX12_toss_10 rfl rfl ?_
    refine ab_goto (tgt := 20) dX12_toss_11 (by decide) ?_
    cases Option.some.inj hf
    exact ab_retI dX12_toss_20 (Or.inl rfl) (Nat.le_refl _) (Nat.le_refl _) ⟨rfl, rfl⟩
set_option maxHeartbeats 4000000 in
set_option maxRecDepth 100000 in
theorem m_X12_toss {d : Nat} {t0 : Nat} {i1 : Int32} {h : ab_HP} {r : Int32} (ht0 : (ab_shp t0).1 = 5) (hf : f_X12_toss t0 i1 h = some r) : ab_MET mX12_toss (d + 3) 0 0 [va_rf (some t0), .int i1] h (ab_Pi r h) := ab_met (by decide +kernel) (by decide +kernel) (Nat.le_of_ble_eq_true rfl) rfl (x_X12_toss ht0 hf)
