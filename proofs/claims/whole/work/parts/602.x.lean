set_option maxHeartbeats 4000000 in
set_option maxRecDepth 100000 in
theorem x_X9_newDeed_l16 {d : Nat} {t0 : Nat} {r : ((Option Nat) × ab_HP)} (ht0 : (ab_shp t0).1 = 1) : ∀ (n : Nat) (i1 : Option Nat) (i2 : Int32) (i3 : Int32) (i4 : Int32) (i5 : Int32) (h : ab_HP) (c s : Nat), c + n * 0 + 1 ≤ 1 → s + n * 0 + 14 ≤ 14 →  (∀ z, i1 = some z → (ab_shp z).1 = 3) → f_X9_newDeed_l16 t0 n i1 i2 i3 i4 i5 h = some r → ab_T mX9_newDeed (d + 4) 1 14 c s 16 [some (va_rf (some t0)), some (va_rf i1), some (.int i2), some (.int i3), some (.int i4), some (.int i5), none, none, none] [] h (ab_Pr 4 r.1 r.2) := by
  intro n
  induction n with
  | zero =>
    intro i1 i2 i3 i4 i5 h c s hc hs T_i1 hf
    rw [f_X9_newDeed_l16] at hf
    cases hf
  | succ n ih =>
    intro i1 i2 i3 i4 i5 h c s hc hs T_i1 hf
    rw [f_X9_newDeed_l16] at hf
    refine ab_iload (pc2 := 18) dX9_newDeed_16 rfl rfl ?_
    refine ab_iload_n (pc2 := 19) dX9_newDeed_18 rfl rfl ?_
    refine ab_icmp_ge (tgt := 44) (pc2 := 22) dX9_newDeed_19 (by decide) rfl hf (fun c2 hf => ?_) (fun c2 hf => ?_)
    · refine ab_aload_n (x := _) (pc2 := 45) dX9_newDeed_44 rfl rfl ?_
      refine ab_iload_n (pc2 := 46) dX9_newDeed_45 rfl rfl ?_
      refine ab_iconst (pc2 := 47) (v := 1) dX9_newDeed_46 rfl ab_k_iconst_1 ?_
      refine ab_iadd (pc2 := 48) dX9_newDeed_47 rfl ?_
      obtain ⟨q3, hq3, hf⟩ := ab_bind hf
      obtain ⟨w4, ew4, hf⟩ := ab_bind hf
      refine ab_callV (pc2 := 51) (st := []) hq3 (T_i1 q3 hq3) (by decide) (m_X6_read (d := (d + 2)) (T_i1 q3 hq3) ew4) mf_X6_read tw_25 tw_24 ts_X6_read (Or.inl (by decide +kernel)) dX9_newDeed_48 rfl (by omega) (by omega) (by omega) rfl (Nat.le_of_ble_eq_true rfl) (ab_kPi ?_)
      refine ab_bipush (pc2 := 53) (v := 97) dX9_newDeed_51 rfl ab_k_bipush_97 ?_
      refine ab_isub (pc2 := 54) dX9_newDeed_53 rfl ?_
      refine ab_istore (pc2 := 56) (lo2 := [some (va_rf _), some (va_rf _), some (.int _), some (.int _), some (.int _), some (.int _), none, none, none]) dX9_newDeed_54 rfl (by decide) rfl ?_
      refine ab_iload_n (pc2 := 57) dX9_newDeed_56 rfl rfl ?_
      refine ab_iconst (pc2 := 58) (v := 2) dX9_newDeed_57 rfl ab_k_iconst_2 ?_
      refine ab_iadd (pc2 := 59) dX9_newDeed_58 rfl ?_
      refine ab_istore (pc2 := 61) (lo2 := [some (va_rf _), some (va_rf _), some (.int _), some (.int _), some (.int _), some (.int _), some (.int _), none, none]) dX9_newDeed_59 rfl (by decide) rfl ?_
      refine ab_aload_n (x := _) (pc2 := 62) dX9_newDeed_61 rfl rfl ?_
      refine ab_iload (pc2 := 64) dX9_newDeed_62 rfl rfl ?_
      obtain ⟨w5, ew5, hf⟩ := ab_bind hf
      refine ab_callS (pc2 := 67) (st := []) (m_X9_number (d := (d + 1)) T_i1 ew5) mf_X9_number tw_58 tw_59 dX9_newDeed_64 rfl (by omega) (by omega) (by omega) rfl (Nat.le_of_ble_eq_true rfl) (ab_kPi ?_)
      refine ab_istore (pc2 := 69) (lo2 := [some (va_rf _), some (va_rf _), some (.int _), some (.int _), some (.int _), some (.int _), some (.int _), some (.int _), none]) dX9_newDeed_67 rfl (by decide) rfl ?_
      refine ab_aload_n (x := _) (pc2 := 70) dX9_newDeed_69 rfl rfl ?_
      refine ab_aload_n (x := _) (pc2 := 71) dX9_newDeed_70 rfl rfl ?_
      refine ab_iload (pc2 := 73) dX9_newDeed_71 rfl rfl ?_
      refine ab_iconst (pc2 := 74) (v := 2) dX9_newDeed_73 rfl ab_k_iconst_2 ?_
      obtain ⟨w6, ew6, hf⟩ := ab_bind hf
      refine ab_callS (pc2 := 77) (st := [_]) (m_X9_behindNumber (d := (d + 0)) T_i1 ew6) mf_X9_behindNumber tw_40 tw_41 dX9_newDeed_74 rfl (by omega) (by omega) (by omega) rfl (Nat.le_of_ble_eq_true rfl) (ab_kPi ?_)
      refine ab_iconst (pc2 := 78) (v := 1) dX9_newDeed_77 rfl ab_k_iconst_1 ?_
      refine ab_iadd (pc2 := 79) dX9_newDeed_78 rfl ?_
      obtain ⟨w7, ew7, hf⟩ := ab_bind hf
      refine ab_callS (pc2 := 82) (st := []) (m_X9_number (d := (d + 1)) T_i1 ew7) mf_X9_number tw_58 tw_59 dX9_newDeed_79 rfl (by omega) (by omega) (by omega) rfl (Nat.le_of_ble_eq_true rfl) (ab_kPi ?_)
      refine ab_istore (pc2 := 84) (lo2 := [some (va_rf _), some (va_rf _), some (.int _), some (.int _), some (.int _), some (.int _), some (.int _), some (.int _), some (.int _)]) dX9_newDeed_82 rfl (by decide) rfl ?_
      refine ab_aload_n (x := _) (pc2 := 85) dX9_newDeed_84 rfl rfl ?_
      refine ab_iload_n (pc2 := 86) dX9_newDeed_85 rfl rfl ?_
      obtain ⟨w8, ew8, hf⟩ := ab_bind hf
      refine ab_callS (pc2 := 89) (st := []) (m_X9_number (d := (d + 1)) T_i1 ew8) mf_X9_number tw_58 tw_59 dX9_newDeed_86 rfl (by omega) (by omega) (by omega) rfl (Nat.le_of_ble_eq_true rfl) (ab_kPi ?_)
      rcases ab_cas hf with ⟨s9, hf⟩ | ⟨s9, hf⟩
      · refine ab_tswK (tgt := 136) (off := 47) dX9_newDeed_89 s9 (by decide) (by decide) (by decide +kernel) (by decide) ?_
        obtain ⟨b10, hf⟩ := ab_guard hf
        obtain ⟨h11, eh11, hf⟩ := ab_let_x hf
        refine ab_new (pc2 := 139) nf_X9_9 b10 (by omega) (by omega) dX9_newDeed_136 rfl ?_
        refine ab_topH eh11 ?_
        refine ab_dup (pc2 := 140) dX9_newDeed_139 rfl (ab_rf1 _) ?_
        refine ab_aload_n (x := _) (pc2 := 141) dX9_newDeed_140 rfl rfl ?_
        refine ab_getI (pc2 := 144) rfl ht0 fa_X9_28 (by decide) dX9_newDeed_141 rfl ?_
        refine ab_iload (pc2 := 146) dX9_newDeed_144 rfl rfl ?_
        refine ab_iload (pc2 := 148) dX9_newDeed_146 rfl rfl ?_
        refine ab_iload (pc2 := 150) dX9_newDeed_148 rfl rfl ?_
        refine ab_iload (pc2 := 152) dX9_newDeed_150 rfl rfl ?_
        obtain ⟨w12, ew12, hf⟩ := ab_bind hf
        refine ab_callI (pc2 := 155) (st := [_]) (m_X1_init (d := (d + 2)) b10 ew12) mf_X1_init rfl rfl tw_60 tw_47 dX9_newDeed_152 rfl (by omega) (by omega) (by omega) rfl (Nat.le_of_ble_eq_true rfl) (ab_kPv ?_)
        cases Option.some.inj hf
        exact ab_retA dX9_newDeed_155 ⟨_, rfl⟩ (by omega) (by omega) ⟨rfl, rfl, (ab_ty1 b10)⟩
      rcases ab_cas hf with ⟨s13, hf⟩ | ⟨s13, hf⟩
      · refine ab_tswK (tgt := 156) (off := 67) dX9_newDeed_89 s13 (by decide) (by decide) (by decide +kernel) (by decide) ?_
        obtain ⟨b14, hf⟩ := ab_guard hf
        obtain ⟨h15, eh15, hf⟩ := ab_let_x hf
        refine ab_new (pc2 := 159) nf_X9_124 b14 (by omega) (by omega) dX9_newDeed_156 rfl ?_
        refine ab_topH eh15 ?_
        refine ab_dup (pc2 := 160) dX9_newDeed_159 rfl (ab_rf1 _) ?_
        refine ab_aload_n (x := _) (pc2 := 161) dX9_newDeed_160 rfl rfl ?_
        refine ab_getI (pc2 := 164) rfl ht0 fa_X9_28 (by decide) dX9_newDeed_161 rfl ?_
        refine ab_iload (pc2 := 166) dX9_newDeed_164 rfl rfl ?_
        refine ab_iload (pc2 := 168) dX9_newDeed_166 rfl rfl ?_
        refine ab_iload (pc2 := 170) dX9_newDeed_168 rfl rfl ?_
        refine ab_iload (pc2 := 172) dX9_newDeed_170 rfl rfl ?_
        obtain ⟨w16, ew16, hf⟩ := ab_bind hf
        refine ab_callI (pc2 := 175) (st := [_]) (m_X4_init (d := (d + 1)) b14 ew16) mf_X4_init rfl rfl tw_61 tw_53 dX9_newDeed_172 rfl (by omega) (by omega) (by omega) rfl (Nat.le_of_ble_eq_true rfl) (ab_kPv ?_)
        cases Option.some.inj hf
        exact ab_retA dX9_newDeed_175 ⟨_, rfl⟩ (by omega) (by omega) ⟨rfl, rfl, (ab_ty1 b14)⟩
      rcases ab_cas hf with ⟨s17, hf⟩ | ⟨s17, hf⟩
      · refine ab_tswK (tgt := 176) (off := 87) dX9_newDeed_89 s17 (by decide) (by decide) (by decide +kernel) (by decide) ?_
        obtain ⟨b18, hf⟩ := ab_guard hf
        obtain ⟨h19, eh19, hf⟩ := ab_let_x hf
        refine ab_new (pc2 := 179) nf_X9_127 b18 (by omega) (by omega) dX9_newDeed_176 rfl ?_
        refine ab_topH eh19 ?_
        refine ab_dup (pc2 := 180) dX9_newDeed_179 rfl (ab_rf1 _) ?_
        refine ab_aload_n (x := _) (pc2 := 181) dX9_newDeed_180 rfl rfl ?_
        refine ab_getI (pc2 := 184) rfl ht0 fa_X9_28 (by decide) dX9_newDeed_181 rfl ?_
        refine ab_iload (pc2 := 186) dX9_newDeed_184 rfl rfl ?_
        refine ab_iload (pc2 := 188) dX9_newDeed_186 rfl rfl ?_
        refine ab_iload (pc2 := 190) dX9_newDeed_188 rfl rfl ?_
        refine ab_iload (pc2 := 192) dX9_newDeed_190 rfl rfl ?_
        obtain ⟨w20, ew20, hf⟩ := ab_bind hf
        refine ab_callI (pc2 := 195) (st := [_]) (m_X7_init (d := (d + 1)) b18 ew20) mf_X7_init rfl rfl tw_62 tw_50 dX9_newDeed_192 rfl (by omega) (by omega) (by omega) rfl (Nat.le_of_ble_eq_true rfl) (ab_kPv ?_)
        cases Option.some.inj hf
        exact ab_retA dX9_newDeed_195 ⟨_, rfl⟩ (by omega) (by omega) ⟨rfl, rfl, (ab_ty1 b18)⟩
      rcases ab_cas hf with ⟨s21, hf⟩ | ⟨s21, hf⟩
      · refine ab_tswK (tgt := 196) (off := 107) dX9_newDeed_89 s21 (by decide) (by decide) (by decide +kernel) (by decide) ?_
        obtain ⟨b22, hf⟩ := ab_guard hf
        obtain ⟨h23, eh23, hf⟩ := ab_let_x hf
        refine ab_new (pc2 := 199) nf_X9_130 b22 (by omega) (by omega) dX9_newDeed_196 rfl ?_
        refine ab_topH eh23 ?_
        refine ab_dup (pc2 := 200) dX9_newDeed_199 rfl (ab_rf1 _) ?_
        refine ab_aload_n (x := _) (pc2 := 201) dX9_newDeed_200 rfl rfl ?_
        refine ab_getI (pc2 := 204) rfl ht0 fa_X9_28 (by decide) dX9_newDeed_201 rfl ?_
        refine ab_iload (pc2 := 206) dX9_newDeed_204 rfl rfl ?_
        refine ab_iload (pc2 := 208) dX9_newDeed_206 rfl rfl ?_
        refine ab_iload (pc2 := 210) dX9_newDeed_208 rfl rfl ?_
        refine ab_iload (pc2 := 212) dX9_newDeed_210 rfl rfl ?_
        obtain ⟨w24, ew24, hf⟩ := ab_bind hf
        refine ab_callI (pc2 := 215) (st := [_]) (m_X2_init (d := (d + 0)) b22 ew24) mf_X2_init rfl rfl tw_64 tw_63 dX9_newDeed_212 rfl (by omega) (by omega) (by omega) rfl (Nat.le_of_ble_eq_true rfl) (ab_kPv ?_)
        cases Option.some.inj hf
        exact ab_retA dX9_newDeed_215 ⟨_, rfl⟩ (by omega) (by omega) ⟨rfl, rfl, (ab_ty1 b22)⟩
      rcases ab_cas hf with ⟨s25, hf⟩ | ⟨s25, hf⟩
      · refine ab_tswK (tgt := 216) (off := 127) dX9_newDeed_89 s25 (by decide) (by decide) (by decide +kernel) (by decide) ?_
        obtain ⟨b26, hf⟩ := ab_guard hf
        obtain ⟨h27, eh27, hf⟩ := ab_let_x hf
        refine ab_new (pc2 := 219) nf_X9_133 b26 (by omega) (by omega) dX9_newDeed_216 rfl ?_
        refine ab_topH eh27 ?_
        refine ab_dup (pc2 := 220) dX9_newDeed_219 rfl (ab_rf1 _) ?_
        refine ab_aload_n (x := _) (pc2 := 221) dX9_newDeed_220 rfl rfl ?_
        refine ab_getI (pc2 := 224) rfl ht0 fa_X9_28 (by decide) dX9_newDeed_221 rfl ?_
        refine ab_iload (pc2 := 226) dX9_newDeed_224 rfl rfl ?_
        refine ab_iload (pc2 := 228) dX9_newDeed_226 rfl rfl ?_
        refine ab_iload (pc2 := 230) dX9_newDeed_228 rfl rfl ?_
        refine ab_iload (pc2 := 232) dX9_newDeed_230 rfl rfl ?_
        obtain ⟨w28, ew28, hf⟩ := ab_bind hf
        refine ab_callI (pc2 := 235) (st := [_]) (m_X5_init (d := (d + 1)) b26 ew28) mf_X5_init rfl rfl tw_65 tw_56 dX9_newDeed_232 rfl (by omega) (by omega) (by omega) rfl (Nat.le_of_ble_eq_true rfl) (ab_kPv ?_)
        cases Option.some.inj hf
        exact ab_retA dX9_newDeed_235 ⟨_, rfl⟩ (by omega) (by omega) ⟨rfl, rfl, (ab_ty1 b26)⟩
      rcases ab_cas hf with ⟨s29, hf⟩ | ⟨s29, hf⟩
      · refine ab_tswK (tgt := 236) (off := 147) dX9_newDeed_89 s29 (by decide) (by decide) (by decide +kernel) (by decide) ?_
        obtain ⟨b30, hf⟩ := ab_guard hf
        obtain ⟨h31, eh31, hf⟩ := ab_let_x hf
        refine ab_new (pc2 := 239) nf_X9_136 b30 (by omega) (by omega) dX9_newDeed_236 rfl ?_
        refine ab_topH eh31 ?_
        refine ab_dup (pc2 := 240) dX9_newDeed_239 rfl (ab_rf1 _) ?_
        refine ab_aload_n (x := _) (pc2 := 241) dX9_newDeed_240 rfl rfl ?_
        refine ab_getI (pc2 := 244) rfl ht0 fa_X9_28 (by decide) dX9_newDeed_241 rfl ?_
        refine ab_iload (pc2 := 246) dX9_newDeed_244 rfl rfl ?_
        refine ab_iload (pc2 := 248) dX9_newDeed_246 rfl rfl ?_
        refine ab_iload (pc2 := 250) dX9_newDeed_248 rfl rfl ?_
        refine ab_iload (pc2 := 252) dX9_newDeed_250 rfl rfl ?_
        obtain ⟨w32, ew32, hf⟩ := ab_bind hf
        refine ab_callI (pc2 := 255) (st := [_]) (m_X0_init (d := (d + 0)) b30 ew32) mf_X0_init rfl rfl tw_67 tw_66 dX9_newDeed_252 rfl (by omega) (by omega) (by omega) rfl (Nat.le_of_ble_eq_true rfl) (ab_kPv ?_)
        cases Option.some.inj hf
        exact ab_retA dX9_newDeed_255 ⟨_, rfl⟩ (by omega) (by omega) ⟨rfl, rfl, (ab_ty1 b30)⟩
      rcases ab_cas hf with ⟨s33, hf⟩ | ⟨s33, hf⟩
      · refine ab_tswK (tgt := 256) (off := 167) dX9_newDeed_89 s33 (by decide) (by decide) (by decide +kernel) (by decide) ?_
        obtain ⟨b34, hf⟩ := ab_guard hf
        obtain ⟨h35, eh35, hf⟩ := ab_let_x hf
        refine ab_new (pc2 := 259) nf_X9_139 b34 (by omega) (by omega) dX9_newDeed_256 rfl ?_
        refine ab_topH eh35 ?_
        refine ab_dup (pc2 := 260) dX9_newDeed_259 rfl (ab_rf1 _) ?_
        refine ab_aload_n (x := _) (pc2 := 261) dX9_newDeed_260 rfl rfl ?_
        refine ab_getI (pc2 := 264) rfl ht0 fa_X9_28 (by decide) dX9_newDeed_261 rfl ?_
        refine ab_iload (pc2 := 266) dX9_newDeed_264 rfl rfl ?_
        refine ab_iload (pc2 := 268) dX9_newDeed_266 rfl rfl ?_
        refine ab_iload (pc2 := 270) dX9_newDeed_268 rfl rfl ?_
        refine ab_iload (pc2 := 272) dX9_newDeed_270 rfl rfl ?_
        obtain ⟨w36, ew36, hf⟩ := ab_bind hf
        refine ab_callI (pc2 := 275) (st := [_]) (m_X3_init (d := (d + 1)) b34 ew36) mf_X3_init rfl rfl tw_69 tw_68 dX9_newDeed_272 rfl (by omega) (by omega) (by omega) rfl (Nat.le_of_ble_eq_true rfl) (ab_kPv ?_)
        cases Option.some.inj hf
        exact ab_retA dX9_newDeed_275 ⟨_, rfl⟩ (by omega) (by omega) ⟨rfl, rfl, (ab_ty1 b34)⟩
      rcases ab_cas hf with ⟨s37, hf⟩ | ⟨s37, hf⟩
      · refine ab_tswK (tgt := 276) (off := 187) dX9_newDeed_89 s37 (by decide) (by decide) (by decide +kernel) (by decide) ?_
        obtain ⟨b38, hf⟩ := ab_guard hf
        obtain ⟨h39, eh39, hf⟩ := ab_let_x hf
        refine ab_new (pc2 := 279) nf_X9_142 b38 (by omega) (by omega) dX9_newDeed_276 rfl ?_
        refine ab_topH eh39 ?_
        refine ab_dup (pc2 := 280) dX9_newDeed_279 rfl (ab_rf1 _) ?_
        refine ab_aload_n (x := _) (pc2 := 281) dX9_newDeed_280 rfl rfl ?_
        refine ab_getI (pc2 := 284) rfl ht0 fa_X9_28 (by decide) dX9_newDeed_281 rfl ?_
        refine ab_iload (pc2 := 286) dX9_newDeed_284 rfl rfl ?_
        refine ab_iload (pc2 := 288) dX9_newDeed_286 rfl rfl ?_
        refine ab_iload (pc2 := 290) dX9_newDeed_288 rfl rfl ?_
        refine ab_iload (pc2 := 292) dX9_newDeed_290 rfl rfl ?_
        obtain ⟨w40, ew40, hf⟩ := ab_bind hf
        refine ab_callI (pc2 := 295) (st := [_]) (m_X8_init (d := (d + 0)) b38 ew40) mf_X8_init rfl rfl tw_71 tw_70 dX9_newDeed_292 rfl (by omega) (by omega) (by omega) rfl (Nat.le_of_ble_eq_true rfl) (ab_kPv ?_)
        cases Option.some.inj hf
        exact ab_retA dX9_newDeed_295 ⟨_, rfl⟩ (by omega) (by omega) ⟨rfl, rfl, (ab_ty1 b38)⟩
      have s9n := lv_neT s9 (by decide : (0 : Int32).toInt = 0)
      have s13n := lv_neT s13 (by decide : (1 : Int32).toInt = 1)
      have s17n := lv_neT s17 (by decide : (2 : Int32).toInt = 2)
      have s21n := lv_neT s21 (by decide : (3 : Int32).toInt = 3)
      have s25n := lv_neT s25 (by decide : (4 : Int32).toInt = 4)
      have s29n := lv_neT s29 (by decide : (5 : Int32).toInt = 5)
      have s33n := lv_neT s33 (by decide : (6 : Int32).toInt = 6)
      have s37n := lv_neT s37 (by decide : (7 : Int32).toInt = 7)
      refine ab_tswOut (tgt := 296) dX9_newDeed_89 (by omega) (by decide) ?_
      refine ab_null (pc2 := 297) dX9_newDeed_296 rfl ?_
      cases Option.some.inj hf
      exact ab_retA dX9_newDeed_297 ⟨_, rfl⟩ (by omega) (by omega) ⟨rfl, rfl, (fun z hz => by cases hz)⟩
    · refine ab_iload (pc2 := 24) dX9_newDeed_22 rfl rfl ?_
      refine ab_iconst (pc2 := 25) (v := 1) dX9_newDeed_24 rfl ab_k_iconst_1 ?_
      refine ab_aload_n (x := _) (pc2 := 26) dX9_newDeed_25 rfl rfl ?_
      refine ab_iload (pc2 := 28) dX9_newDeed_26 rfl rfl ?_
      obtain ⟨q41, hq41, hf⟩ := ab_bind hf
      obtain ⟨w42, ew42, hf⟩ := ab_bind hf
      refine ab_callV (pc2 := 31) (st := [_, _]) hq41 (T_i1 q41 hq41) (by decide) (m_X6_read (d := (d + 2)) (T_i1 q41 hq41) ew42) mf_X6_read tw_25 tw_24 ts_X6_read (Or.inl (by decide +kernel)) dX9_newDeed_28 rfl (by omega) (by omega) (by omega) rfl (Nat.le_of_ble_eq_true rfl) (ab_kPi ?_)
      refine ab_bipush (pc2 := 33) (v := 97) dX9_newDeed_31 rfl ab_k_bipush_97 ?_
      refine ab_isub (pc2 := 34) dX9_newDeed_33 rfl ?_
      refine ab_ishl (pc2 := 35) dX9_newDeed_34 rfl ?_
      refine ab_ior (pc2 := 36) dX9_newDeed_35 rfl ?_
      obtain ⟨v43, ev43, hf⟩ := ab_let_x hf
      refine ab_topI ev43 ?_
      refine ab_istore (pc2 := 38) (lo2 := [some (va_rf _), some (va_rf _), some (.int _), some (.int _), some (.int _), some (.int _), none, none, none]) dX9_newDeed_36 rfl (by decide) rfl ?_
      refine ab_iinc (pc2 := 41) (v := _ + 1) (lo2 := [some (va_rf _), some (va_rf _), some (.int _), some (.int _), some (.int _), some (.int _), none, none, none]) dX9_newDeed_38 rfl rfl rfl (by decide) rfl ?_
      refine ab_goto (tgt := 16) dX9_newDeed_41 (by decide) ?_
      exact ab_weak (ih _ _ _ _ _ _ _ _ (by omega) (by omega) T_i1 hf) (ab_leS (ab_leS (ab_leS (ab_leS (ab_leS (ab_leS (ab_leN (ab_leN (ab_leN ab_le0)))))))))
set_option maxHeartbeats 4000000 in
set_option maxRecDepth 100000 in
theorem x_X9_newDeed {d : Nat} {t0 : Nat} {i1 : Option Nat} {i2 : Int32} {h : ab_HP} {r : ((Option Nat) × ab_HP)} (ht0 : (ab_shp t0).1 = 1) (T_i1 : ∀ z, i1 = some z → (ab_shp z).1 = 3) (hf : f_X9_newDeed t0 i1 i2 h = some r) : ab_T mX9_newDeed (d + 4) 1 14 0 0 0 [some (va_rf (some t0)), some (va_rf i1), some (.int i2), none, none, none, none, none, none] [] h (ab_Pr 4 r.1 r.2) := by
  unfold f_X9_newDeed at hf
  refine ab_aload_n (x := _) (pc2 := 1) dX9_newDeed_0 rfl rfl ?_
  refine ab_iload_n (pc2 := 2) dX9_newDeed_1 rfl rfl ?_
  refine ab_iconst (pc2 := 3) (v := 1) dX9_newDeed_2 rfl ab_k_iconst_1 ?_
  refine ab_iadd (pc2 := 4) dX9_newDeed_3 rfl ?_
  obtain ⟨w1, ew1, hf⟩ := ab_bind hf
  refine ab_callS (pc2 := 7) (st := []) (m_X9_behindNeeds (d := (d + 1)) T_i1 ew1) mf_X9_behindNeeds tw_34 tw_35 dX9_newDeed_4 rfl (by omega) (by omega) (by omega) rfl (Nat.le_of_ble_eq_true rfl) (ab_kPi ?_)
  refine ab_istore_n (pc2 := 8) (lo2 := [some (va_rf _), some (va_rf _), some (.int _), some (.int _), none, none, none, none, none]) dX9_newDeed_7 rfl (by decide) rfl ?_
  refine ab_iconst (pc2 := 9) (v := 0) dX9_newDeed_8 rfl ab_k_iconst_0 ?_
  refine ab_istore (pc2 := 11) (lo2 := [some (va_rf _), some (va_rf _), some (.int _), some (.int _), some (.int _), none, none, none, none]) dX9_newDeed_9 rfl (by decide) rfl ?_
  refine ab_iload_n (pc2 := 12) dX9_newDeed_11 rfl rfl ?_
  refine ab_iconst (pc2 := 13) (v := 1) dX9_newDeed_12 rfl ab_k_iconst_1 ?_
  refine ab_iadd (pc2 := 14) dX9_newDeed_13 rfl ?_
  refine ab_istore (pc2 := 16) (lo2 := [some (va_rf _), some (va_rf _), some (.int _), some (.int _), some (.int _), some (.int _), none, none, none]) dX9_newDeed_14 rfl (by decide) rfl ?_
  exact ab_weak (x_X9_newDeed_l16 ht0 _ _ _ _ _ _ _ _ _ (by omega) (by omega) T_i1 hf) (ab_leS (ab_leS (ab_leS (ab_leS (ab_leS (ab_leS (ab_leN (ab_leN (ab_leN ab_le0)))))))))
set_option maxHeartbeats 4000000 in
set_option maxRecDepth 100000 in
theorem m_X9_newDeed {d : Nat} {t0 : Nat} {i1 : Option Nat} {i2 : Int32} {h : ab_HP} {r : ((Option Nat) × ab_HP)} (ht0 : (ab_shp t0).1 = 1) (T_i1 : ∀ z, i1 = some z → (ab_shp z).1 = 3) (hf : f_X9_newDeed t0 i1 i2 h = some r) : ab_MET mX9_newDeed (d + 4) 1 14 [va_rf (some t0), va_rf i1, .int i2] h (ab_Pr 4 r.1 r.2) := ab_met (by decide +kernel) (by decide +kernel) (by simp [ab_lo, ab_rf1, ab_cI, ab_cJ]) (by simp [ab_lo0, ab_lo, ab_rf1, ab_cI, ab_cJ, List.replicate]) (x_X9_newDeed ht0 T_i1 hf)
set_option maxHeartbeats 4000000 in
set_option maxRecDepth 100000 in
theorem x_X9_takeDeed {d : Nat} {t0 : Nat} {i1 : Option Nat} {h : ab_HP} {r : (Int32 × ab_HP)} (ht0 : (ab_shp t0).1 = 1) (T_i1 : ∀ z, i1 = some z → (ab_shp z).1 = 4) (hf : f_X9_takeDeed t0 i1 h = some r) : ab_T mX9_takeDeed (d + 0) 0 0 0 0 0 [some (va_rf (some t0)), some (va_rf i1)] [] h (ab_Pb r.1 r.2) := by
  unfold f_X9_takeDeed at hf
  refine ab_aload_n (x := _) (pc2 := 1) dX9_takeDeed_0 rfl rfl ?_
  refine ab_nul (tgt := 16) (pc2 := 4) dX9_takeDeed_1 (by decide) rfl hf (fun hq1 hf => ?_) (fun q1 hq1 hf => ?_)
  · refine ab_iconst (pc2 := 17) (v := 0) dX9_takeDeed_16 rfl ab_k_iconst_0 ?_
    cases Option.some.inj hf
    exact ab_retI dX9_takeDeed_17 (Or.inr ⟨rfl, (Or.inl rfl)⟩) (Nat.le_refl _) (Nat.le_refl _) ⟨rfl, rfl, (Or.inl rfl)⟩
  · refine ab_aload_n (x := _) (pc2 := 5) dX9_takeDeed_4 rfl rfl ?_
    refine ab_getI (pc2 := 8) rfl ht0 fa_X9_28 (by decide) dX9_takeDeed_5 rfl ?_
    refine ab_aload_n (x := _) (pc2 := 9) dX9_takeDeed_8 rfl rfl ?_
    refine ab_getR (pc2 := 12) rfl ht0 fa_X9_11 dX9_takeDeed_9 rfl (fun T2 => ?_)
    obtain ⟨q3, hq3, hf⟩ := ab_bind hf
    refine ab_alen (pc2 := 13) hq3 (Or.inr (Or.inl (T2 q3 hq3))) dX9_takeDeed_12 rfl ?_
    refine ab_icmp_lt (tgt := 18) (pc2 := 16) dX9_takeDeed_13 (by decide) rfl hf (fun c4 hf => ?_) (fun c4 hf => ?_)
    · refine ab_aload_n (x := _) (pc2 := 19) dX9_takeDeed_18 rfl rfl ?_
      refine ab_getR (pc2 := 22) rfl ht0 fa_X9_11 dX9_takeDeed_19 rfl (fun T5 => ?_)
      refine ab_aload_n (x := _) (pc2 := 23) dX9_takeDeed_22 rfl rfl ?_
      refine ab_getI (pc2 := 26) rfl ht0 fa_X9_28 (by decide) dX9_takeDeed_23 rfl ?_
      refine ab_aload_n (x := _) (pc2 := 27) dX9_takeDeed_26 rfl rfl ?_
      obtain ⟨q6, hq6, hf⟩ := ab_bind hf
      obtain ⟨b7, hf⟩ := ab_guard hf
      obtain ⟨h8, eh8, hf⟩ := ab_let_x hf
      refine ab_aast (pc2 := 28) hq6 (T5 q6 hq6) (Or.inl rfl) T_i1 (ab_in_vp b7) dX9_takeDeed_27 rfl ?_
      refine ab_topH eh8 ?_
      refine ab_aload_n (x := _) (pc2 := 29) dX9_takeDeed_28 rfl rfl ?_
      refine ab_dup (pc2 := 30) dX9_takeDeed_29 rfl (ab_rf1 _) ?_
      refine ab_getI (pc2 := 33) rfl ht0 fa_X9_28 (by decide) dX9_takeDeed_30 rfl ?_
      refine ab_iconst (pc2 := 34) (v := 1) dX9_takeDeed_33 rfl ab_k_iconst_1 ?_
      refine ab_iadd (pc2 := 35) dX9_takeDeed_34 rfl ?_
      obtain ⟨h9, eh9, hf⟩ := ab_let_x hf
      refine ab_putI (pc2 := 38) rfl ht0 fa_X9_28 (Or.inl rfl) (fun z => by cases z) dX9_takeDeed_35 rfl ?_
      refine ab_topH eh9 ?_
      refine ab_iconst (pc2 := 39) (v := 1) dX9_takeDeed_38 rfl ab_k_iconst_1 ?_
      cases Option.some.inj hf
      exact ab_retI dX9_takeDeed_39 (Or.inr ⟨rfl, (Or.inr rfl)⟩) (Nat.le_refl _) (Nat.le_refl _) ⟨rfl, rfl, (Or.inr rfl)⟩
    · refine ab_iconst (pc2 := 17) (v := 0) dX9_takeDeed_16 rfl ab_k_iconst_0 ?_
      cases Option.some.inj hf
      exact ab_retI dX9_takeDeed_17 (Or.inr ⟨rfl, (Or.inl rfl)⟩) (Nat.le_refl _) (Nat.le_refl _) ⟨rfl, rfl, (Or.inl rfl)⟩
set_option maxHeartbeats 4000000 in
set_option maxRecDepth 100000 in
theorem m_X9_takeDeed {d : Nat} {t0 : Nat} {i1 : Option Nat} {h : ab_HP} {r : (Int32 × ab_HP)} (ht0 : (ab_shp t0).1 = 1) (T_i1 : ∀ z, i1 = some z → (ab_shp z).1 = 4) (hf : f_X9_takeDeed t0 i1 h = some r) : ab_MET mX9_takeDeed (d + 0) 0 0 [va_rf (some t0), va_rf i1] h (ab_Pb r.1 r.2) := ab_met (by decide +kernel) (by decide +kernel) (by simp [ab_lo, ab_rf1, ab_cI, ab_cJ]) (by simp [ab_lo0, ab_lo, ab_rf1, ab_cI, ab_cJ, List.replicate]) (x_X9_takeDeed ht0 T_i1 hf)
set_option maxHeartbeats 4000000 in
set_option maxRecDepth 100000 in
theorem x_X9_takeMark {d : Nat} {t0 : Nat} {i1 : Int32} {h : ab_HP} {r : (Int32 × ab_HP)} (ht0 : (ab_shp t0).1 = 1) (hf : f_X9_takeMark t0 i1 h = some r) : ab_T mX9_takeMark (d + 0) 0 0 0 0 0 [some (va_rf (some t0)), some (.int i1)] [] h (ab_Pb r.1 r.2) := by
  unfold f_X9_takeMark at hf
  refine ab_aload_n (x := _) (pc2 := 1) dX9_takeMark_0 rfl rfl ?_
  refine ab_getI (pc2 := 4) rfl ht0 fa_X9_31 (by decide) dX9_takeMark_1 rfl ?_
  refine ab_iload_n (pc2 := 5) dX9_takeMark_4 rfl rfl ?_
  refine ab_ishr (pc2 := 6) dX9_takeMark_5 rfl ?_
  refine ab_iconst (pc2 := 7) (v := 1) dX9_takeMark_6 rfl ab_k_iconst_1 ?_
  refine ab_iand (pc2 := 8) dX9_takeMark_7 rfl ?_
  refine ab_if_eq (tgt := 13) (pc2 := 11) dX9_takeMark_8 (by decide) rfl hf (fun c1 hf => ?_) (fun c1 hf => ?_)
  · refine ab_aload_n (x := _) (pc2 := 14) dX9_takeMark_13 rfl rfl ?_
    refine ab_dup (pc2 := 15) dX9_takeMark_14 rfl (ab_rf1 _) ?_
    refine ab_getI (pc2 := 18) rfl ht0 fa_X9_31 (by decide) dX9_takeMark_15 rfl ?_
    refine ab_iconst (pc2 := 19) (v := 1) dX9_takeMark_18 rfl ab_k_iconst_1 ?_
    refine ab_iload_n (pc2 := 20) dX9_takeMark_19 rfl rfl ?_
    refine ab_ishl (pc2 := 21) dX9_takeMark_20 rfl ?_
    refine ab_ior (pc2 := 22) dX9_takeMark_21 rfl ?_
    obtain ⟨h2, eh2, hf⟩ := ab_let_x hf
    refine ab_putI (pc2 := 25) rfl ht0 fa_X9_31 (Or.inl rfl) (fun z => by cases z) dX9_takeMark_22 rfl ?_
    refine ab_topH eh2 ?_
    refine ab_iconst (pc2 := 26) (v := 1) dX9_takeMark_25 rfl ab_k_iconst_1 ?_
    cases Option.some.inj hf
    exact ab_retI dX9_takeMark_26 (Or.inr ⟨rfl, (Or.inr rfl)⟩) (Nat.le_refl _) (Nat.le_refl _) ⟨rfl, rfl, (Or.inr rfl)⟩
  · refine ab_iconst (pc2 := 12) (v := 0) dX9_takeMark_11 rfl ab_k_iconst_0 ?_
    cases Option.some.inj hf
    exact ab_retI dX9_takeMark_12 (Or.inr ⟨rfl, (Or.inl rfl)⟩) (Nat.le_refl _) (Nat.le_refl _) ⟨rfl, rfl, (Or.inl rfl)⟩
set_option maxHeartbeats 4000000 in
set_option maxRecDepth 100000 in
theorem m_X9_takeMark {d : Nat} {t0 : Nat} {i1 : Int32} {h : ab_HP} {r : (Int32 × ab_HP)} (ht0 : (ab_shp t0).1 = 1) (hf : f_X9_takeMark t0 i1 h = some r) : ab_MET mX9_takeMark (d + 0) 0 0 [va_rf (some t0), .int i1] h (ab_Pb r.1 r.2) := ab_met (by decide +kernel) (by decide +kernel) (Nat.le_of_ble_eq_true rfl) rfl (x_X9_takeMark ht0 hf)
set_option maxHeartbeats 4000000 in
set_option maxRecDepth 100000 in
theorem x_X9_changeCoins {d : Nat} {t0 : Nat} {i1 : Int32} {h : ab_HP} {r : (Int32 × ab_HP)} (ht0 : (ab_shp t0).1 = 1) (hf : f_X9_changeCoins t0 i1 h = some r) : ab_T mX9_changeCoins (d + 0) 0 0 0 0 0 [some (va_rf (some t0)), some (.int i1), none] [] h (ab_Pi r.1 r.2) := by
  unfold f_X9_changeCoins at hf
  refine ab_iload_n (pc2 := 1) dX9_changeCoins_0 rfl rfl ?_
  refine ab_if_lt (tgt := 11) (pc2 := 4) dX9_changeCoins_1 (by decide) rfl hf (fun c1 hf => ?_) (fun c1 hf => ?_)
  · refine ab_iconst (pc2 := 12) (v := (-1)) dX9_changeCoins_11 rfl ab_k_iconst_m1 ?_
    cases Option.some.inj hf
    exact ab_retI dX9_changeCoins_12 (Or.inl rfl) (Nat.le_refl _) (Nat.le_refl _) ⟨rfl, rfl⟩
  · refine ab_iload_n (pc2 := 5) dX9_changeCoins_4 rfl rfl ?_
    refine ab_sipush (pc2 := 8) (v := 9999) dX9_changeCoins_5 rfl ab_k_sipush_9999 ?_
    refine ab_icmp_le (tgt := 13) (pc2 := 11) dX9_changeCoins_8 (by decide) rfl hf (fun c2 hf => ?_) (fun c2 hf => ?_)
    · refine ab_aload_n (x := _) (pc2 := 14) dX9_changeCoins_13 rfl rfl ?_
      refine ab_getI (pc2 := 17) rfl ht0 fa_X9_17 (by decide) dX9_changeCoins_14 rfl ?_
      refine ab_istore_n (pc2 := 18) (lo2 := [some (va_rf _), some (.int _), some (.int _)]) dX9_changeCoins_17 rfl (by decide) rfl ?_
      refine ab_aload_n (x := _) (pc2 := 19) dX9_changeCoins_18 rfl rfl ?_
      refine ab_iload_n (pc2 := 20) dX9_changeCoins_19 rfl rfl ?_
      obtain ⟨h3, eh3, hf⟩ := ab_let_x hf
      refine ab_putI (pc2 := 23) rfl ht0 fa_X9_17 (Or.inl rfl) (fun z => by cases z) dX9_changeCoins_20 rfl ?_
      refine ab_topH eh3 ?_
      refine ab_iload_n (pc2 := 24) dX9_changeCoins_23 rfl rfl ?_
      cases Option.some.inj hf
      exact ab_retI dX9_changeCoins_24 (Or.inl rfl) (Nat.le_refl _) (Nat.le_refl _) ⟨rfl, rfl⟩
    · refine ab_iconst (pc2 := 12) (v := (-1)) dX9_changeCoins_11 rfl ab_k_iconst_m1 ?_
      cases Option.some.inj hf
      exact ab_retI dX9_changeCoins_12 (Or.inl rfl) (Nat.le_refl _) (Nat.le_refl _) ⟨rfl, rfl⟩
set_option maxHeartbeats 4000000 in
set_option maxRecDepth 100000 in
theorem m_X9_changeCoins {d : Nat} {t0 : Nat} {i1 : Int32} {h : ab_HP} {r : (Int32 × ab_HP)} (ht0 : (ab_shp t0).1 = 1) (hf : f_X9_changeCoins t0 i1 h = some r) : ab_MET mX9_changeCoins (d + 0) 0 0 [va_rf (some t0), .int i1] h (ab_Pi r.1 r.2) := ab_met (by decide +kernel) (by decide +kernel) (Nat.le_of_ble_eq_true rfl) rfl (x_X9_changeCoins ht0 hf)
set_option maxHeartbeats 4000000 in
set_option maxRecDepth 100000 in
theorem x_X9_changeNail {d : Nat} {t0 : Nat} {i1 : Int32} {h : ab_HP} {r : (Int32 × ab_HP)} (ht0 : (ab_shp t0).1 = 1) (hf : f_X9_changeNail t0 i1 h = some r) : ab_T mX9_changeNail (d + 0) 0 0 0 0 0 [some (va_rf (some t0)), some (.int i1), none] [] h (ab_Pi r.1 r.2) := by
  unfold f_X9_changeNail at hf
  refine ab_iload_n (pc2 := 1) dX9_changeNail_0 rfl rfl ?_
  refine ab_if_lt (tgt := 10) (pc2 := 4) dX9_changeNail_1 (by decide) rfl hf (fun c1 hf => ?_) (fun c1 hf => ?_)
  · refine ab_iconst (pc2 := 11) (v := (-1)) dX9_changeNail_10 rfl ab_k_iconst_m1 ?_
    cases Option.some.inj hf
    exact ab_retI dX9_changeNail_11 (Or.inl rfl) (Nat.le_refl _) (Nat.le_refl _) ⟨rfl, rfl⟩
  · refine ab_iload_n (pc2 := 5) dX9_changeNail_4 rfl rfl ?_
    refine ab_bipush (pc2 := 7) (v := 99) dX9_changeNail_5 rfl ab_k_bipush_99 ?_
    refine ab_icmp_le (tgt := 12) (pc2 := 10) dX9_changeNail_7 (by decide) rfl hf (fun c2 hf => ?_) (fun c2 hf => ?_)
    · refine ab_aload_n (x := _) (pc2 := 13) dX9_changeNail_12 rfl rfl ?_
      refine ab_getI (pc2 := 16) rfl ht0 fa_X9_21 (by decide) dX9_changeNail_13 rfl ?_
      refine ab_istore_n (pc2 := 17) (lo2 := [some (va_rf _), some (.int _), some (.int _)]) dX9_changeNail_16 rfl (by decide) rfl ?_
      refine ab_aload_n (x := _) (pc2 := 18) dX9_changeNail_17 rfl rfl ?_
      refine ab_iload_n (pc2 := 19) dX9_changeNail_18 rfl rfl ?_
      obtain ⟨h3, eh3, hf⟩ := ab_let_x hf
      refine ab_putI (pc2 := 22) rfl ht0 fa_X9_21 (Or.inl rfl) (fun z => by cases z) dX9_changeNail_19 rfl ?_
      refine ab_topH eh3 ?_
      refine ab_iload_n (pc2 := 23) dX9_changeNail_22 rfl rfl ?_
      cases Option.some.inj hf
      exact ab_retI dX9_changeNail_23 (Or.inl rfl) (Nat.le_refl _) (Nat.le_refl _) ⟨rfl, rfl⟩
    · refine ab_iconst (pc2 := 11) (v := (-1)) dX9_changeNail_10 rfl ab_k_iconst_m1 ?_
      cases Option.some.inj hf
      exact ab_retI dX9_changeNail_11 (Or.inl rfl) (Nat.le_refl _) (Nat.le_refl _) ⟨rfl, rfl⟩
set_option maxHeartbeats 4000000 in
set_option maxRecDepth 100000 in
theorem m_X9_changeNail {d : Nat} {t0 : Nat} {i1 : Int32} {h : ab_HP} {r : (Int32 × ab_HP)} (ht0 : (ab_shp t0).1 = 1) (hf : f_X9_changeNail t0 i1 h = some r) : ab_MET mX9_changeNail (d + 0) 0 0 [va_rf (some t0), .int i1] h (ab_Pi r.1 r.2) := ab_met (by decide +kernel) (by decide +kernel) (Nat.le_of_ble_eq_true rfl) rfl (x_X9_changeNail ht0 hf)
set_option maxHeartbeats 4000000 in
set_option maxRecDepth 100000 in
theorem x_X9_takeNail {d : Nat} {t0 : Nat} {i1 : Option Nat} {i2 : Int32} {h : ab_HP} {r : (Int32 × ab_HP)} (ht0 : (ab_shp t0).1 = 1) (T_i1 : ∀ z, i1 = some z → (ab_shp z).1 = 3) (hf : f_X9_takeNail t0 i1 i2 h = some r) : ab_T mX9_takeNail (d + 4) 0 0 0 0 0 [some (va_rf (some t0)), some (va_rf i1), some (.int i2), none, none] [] h (ab_Pb r.1 r.2) := by
  unfold f_X9_takeNail at hf
  refine ab_aload_n (x := _) (pc2 := 1) dX9_takeNail_0 rfl rfl ?_
  refine ab_iload_n (pc2 := 2) dX9_takeNail_1 rfl rfl ?_
  refine ab_iconst (pc2 := 3) (v := 2) dX9_takeNail_2 rfl ab_k_iconst_2 ?_
  obtain ⟨w1, ew1, hf⟩ := ab_bind hf
  refine ab_callS (pc2 := 6) (st := []) (m_X9_behindNumber (d := (d + 0)) T_i1 ew1) mf_X9_behindNumber tw_40 tw_41 dX9_takeNail_3 rfl (by omega) (Nat.le_refl _) (Nat.le_refl _) rfl (Nat.le_of_ble_eq_true rfl) (ab_kPi ?_)
  refine ab_iconst (pc2 := 7) (v := 1) dX9_takeNail_6 rfl ab_k_iconst_1 ?_
  refine ab_iadd (pc2 := 8) dX9_takeNail_7 rfl ?_
  refine ab_istore_n (pc2 := 9) (lo2 := [some (va_rf _), some (va_rf _), some (.int _), some (.int _), none]) dX9_takeNail_8 rfl (by decide) rfl ?_
  refine ab_aload_n (x := _) (pc2 := 10) dX9_takeNail_9 rfl rfl ?_
  refine ab_iload_n (pc2 := 11) dX9_takeNail_10 rfl rfl ?_
  refine ab_iconst (pc2 := 12) (v := 1) dX9_takeNail_11 rfl ab_k_iconst_1 ?_
  refine ab_iadd (pc2 := 13) dX9_takeNail_12 rfl ?_
  obtain ⟨w2, ew2, hf⟩ := ab_bind hf
  refine ab_callS (pc2 := 16) (st := []) (m_X9_number (d := (d + 1)) T_i1 ew2) mf_X9_number tw_58 tw_59 dX9_takeNail_13 rfl (by omega) (Nat.le_refl _) (Nat.le_refl _) rfl (Nat.le_of_ble_eq_true rfl) (ab_kPi ?_)
  refine ab_istore (pc2 := 18) (lo2 := [some (va_rf _), some (va_rf _), some (.int _), some (.int _), some (.int _)]) dX9_takeNail_16 rfl (by decide) rfl ?_
  refine ab_aload_n (x := _) (pc2 := 19) dX9_takeNail_18 rfl rfl ?_
  refine ab_aload_n (x := _) (pc2 := 20) dX9_takeNail_19 rfl rfl ?_
  refine ab_iload_n (pc2 := 21) dX9_takeNail_20 rfl rfl ?_
  obtain ⟨q3, hq3, hf⟩ := ab_bind hf
  obtain ⟨w4, ew4, hf⟩ := ab_bind hf
  refine ab_callV (pc2 := 24) (st := [_]) hq3 (T_i1 q3 hq3) (by decide) (m_X6_read (d := (d + 2)) (T_i1 q3 hq3) ew4) mf_X6_read tw_25 tw_24 ts_X6_read (Or.inl (by decide +kernel)) dX9_takeNail_21 rfl (by omega) (Nat.le_refl _) (Nat.le_refl _) rfl (Nat.le_of_ble_eq_true rfl) (ab_kPi ?_)
  refine ab_bipush (pc2 := 26) (v := 45) dX9_takeNail_24 rfl ab_k_bipush_45 ?_
  refine ab_icmp_ne (tgt := 35) (pc2 := 29) dX9_takeNail_26 (by decide) rfl hf (fun c5 hf => ?_) (fun c5 hf => ?_)
  · refine ab_iload (pc2 := 37) dX9_takeNail_35 rfl rfl ?_
    obtain ⟨h6, eh6, hf⟩ := ab_let_x hf
    refine ab_putI (pc2 := 40) rfl ht0 fa_X9_37 (Or.inl rfl) (fun z => by cases z) dX9_takeNail_37 rfl ?_
    refine ab_topH eh6 ?_
    refine ab_aload_n (x := _) (pc2 := 41) dX9_takeNail_40 rfl rfl ?_
    refine ab_aload_n (x := _) (pc2 := 42) dX9_takeNail_41 rfl rfl ?_
    refine ab_iload_n (pc2 := 43) dX9_takeNail_42 rfl rfl ?_
    obtain ⟨w7, ew7, hf⟩ := ab_bind hf
    refine ab_callS (pc2 := 46) (st := [_]) (m_X9_number (d := (d + 1)) T_i1 ew7) mf_X9_number tw_58 tw_59 dX9_takeNail_43 rfl (by omega) (Nat.le_refl _) (Nat.le_refl _) rfl (Nat.le_of_ble_eq_true rfl) (ab_kPi ?_)
    obtain ⟨w8, ew8, hf⟩ := ab_bind hf
    refine ab_callV (pc2 := 49) (st := []) rfl ht0 (by decide) (m_X9_changeNail (d := (d + 3)) ht0 ew8) mf_X9_changeNail tw_73 tw_72 ts_X9_changeNail (Or.inl (by decide +kernel)) dX9_takeNail_46 rfl (by omega) (Nat.le_refl _) (Nat.le_refl _) rfl (Nat.le_of_ble_eq_true rfl) (ab_kPi ?_)
    refine ab_if_lt (tgt := 56) (pc2 := 52) dX9_takeNail_49 (by decide) rfl hf (fun c9 hf => ?_) (fun c9 hf => ?_)
    · refine ab_iconst (pc2 := 57) (v := 0) dX9_takeNail_56 rfl ab_k_iconst_0 ?_
      cases Option.some.inj hf
      exact ab_retI dX9_takeNail_57 (Or.inr ⟨rfl, (Or.inl rfl)⟩) (Nat.le_refl _) (Nat.le_refl _) ⟨rfl, rfl, (Or.inl rfl)⟩
    · refine ab_iconst (pc2 := 53) (v := 1) dX9_takeNail_52 rfl ab_k_iconst_1 ?_
      refine ab_goto (tgt := 57) dX9_takeNail_53 (by decide) ?_
      cases Option.some.inj hf
      exact ab_retI dX9_takeNail_57 (Or.inr ⟨rfl, (Or.inr rfl)⟩) (Nat.le_refl _) (Nat.le_refl _) ⟨rfl, rfl, (Or.inr rfl)⟩
  · refine ab_iload (pc2 := 31) dX9_takeNail_29 rfl rfl ?_
    refine ab_ineg (pc2 := 32) dX9_takeNail_31 rfl ?_
    refine ab_goto (tgt := 37) dX9_takeNail_32 (by decide) ?_
    obtain ⟨h10, eh10, hf⟩ := ab_let_x hf
    refine ab_putI (pc2 := 40) rfl ht0 fa_X9_37 (Or.inl rfl) (fun z => by cases z) dX9_takeNail_37 rfl ?_
    refine ab_topH eh10 ?_
    refine ab_aload_n (x := _) (pc2 := 41) dX9_takeNail_40 rfl rfl ?_
    refine ab_aload_n (x := _) (pc2 := 42) dX9_takeNail_41 rfl rfl ?_
    refine ab_iload_n (pc2 := 43) dX9_takeNail_42 rfl rfl ?_
    obtain ⟨w11, ew11, hf⟩ := ab_bind hf
    refine ab_callS (pc2 := 46) (st := [_]) (m_X9_number (d := (d + 1)) T_i1 ew11) mf_X9_number tw_58 tw_59 dX9_takeNail_43 rfl (by omega) (Nat.le_refl _) (Nat.le_refl _) rfl (Nat.le_of_ble_eq_true rfl) (ab_kPi ?_)
    obtain ⟨w12, ew12, hf⟩ := ab_bind hf
    refine ab_callV (pc2 := 49) (st := []) rfl ht0 (by decide) (m_X9_changeNail (d := (d + 3)) ht0 ew12) mf_X9_changeNail tw_73 tw_72 ts_X9_changeNail (Or.inl (by decide +kernel)) dX9_takeNail_46 rfl (by omega) (Nat.le_refl _) (Nat.le_refl _) rfl (Nat.le_of_ble_eq_true rfl) (ab_kPi ?_)
    refine ab_if_lt (tgt := 56) (pc2 := 52) dX9_takeNail_49 (by decide) rfl hf (fun c13 hf => ?_) (fun c13 hf => ?_)
    · refine ab_iconst (pc2 := 57) (v := 0) dX9_takeNail_56 rfl ab_k_iconst_0 ?_
      cases Option.some.inj hf
      exact ab_retI dX9_takeNail_57 (Or.inr ⟨rfl, (Or.inl rfl)⟩) (Nat.le_refl _) (Nat.le_refl _) ⟨rfl, rfl, (Or.inl rfl)⟩
    · refine ab_iconst (pc2 := 53) (v := 1) dX9_takeNail_52 rfl ab_k_iconst_1 ?_
      refine ab_goto (tgt := 57) dX9_takeNail_53 (by decide) ?_
      cases Option.some.inj hf
      exact ab_retI dX9_takeNail_57 (Or.inr ⟨rfl, (Or.inr rfl)⟩) (Nat.le_refl _) (Nat.le_refl _) ⟨rfl, rfl, (Or.inr rfl)⟩
set_option maxHeartbeats 4000000 in
set_option maxRecDepth 100000 in
theorem m_X9_takeNail {d : Nat} {t0 : Nat} {i1 : Option Nat} {i2 : Int32} {h : ab_HP} {r : (Int32 × ab_HP)} (ht0 : (ab_shp t0).1 = 1) (T_i1 : ∀ z, i1 = some z → (ab_shp z).1 = 3) (hf : f_X9_takeNail t0 i1 i2 h = some r) : ab_MET mX9_takeNail (d + 4) 0 0 [va_rf (some t0), va_rf i1, .int i2] h (ab_Pb r.1 r.2) := ab_met (by decide +kernel) (by decide +kernel) (by simp [ab_lo, ab_rf1, ab_cI, ab_cJ]) (by simp [ab_lo0, ab_lo, ab_rf1, ab_cI, ab_cJ, List.replicate]) (x_X9_takeNail ht0 T_i1 hf)
set_option maxHeartbeats 4000000 in
set_option maxRecDepth 100000 in
theorem x_X9_changeLaw {d : Nat} {t0 : Nat} {i1 : Int32} {h : ab_HP} {r : (Int32 × ab_HP)} (ht0 : (ab_shp t0).1 = 1) (hf : f_X9_changeLaw t0 i1 h = some r) : ab_T mX9_changeLaw (d + 0) 0 0 0 0 0 [some (va_rf (some t0)), some (.int i1), none] [] h (ab_Pi r.1 r.2) := by
  unfold f_X9_changeLaw at hf
  refine ab_iload_n (pc2 := 1) dX9_changeLaw_0 rfl rfl ?_
  refine ab_if_lt (tgt := 9) (pc2 := 4) dX9_changeLaw_1 (by decide) rfl hf (fun c1 hf => ?_) (fun c1 hf => ?_)
  · refine ab_iconst (pc2 := 10) (v := (-1)) dX9_changeLaw_9 rfl ab_k_iconst_m1 ?_
    cases Option.some.inj hf
    exact ab_retI dX9_changeLaw_10 (Or.inl rfl) (Nat.le_refl _) (Nat.le_refl _) ⟨rfl, rfl⟩
  · refine ab_iload_n (pc2 := 5) dX9_changeLaw_4 rfl rfl ?_
    refine ab_iconst (pc2 := 6) (v := 3) dX9_changeLaw_5 rfl ab_k_iconst_3 ?_
    refine ab_icmp_lt (tgt := 11) (pc2 := 9) dX9_changeLaw_6 (by decide) rfl hf (fun c2 hf => ?_) (fun c2 hf => ?_)
    · refine ab_aload_n (x := _) (pc2 := 12) dX9_changeLaw_11 rfl rfl ?_
      refine ab_getI (pc2 := 15) rfl ht0 fa_X9_34 (by decide) dX9_changeLaw_12 rfl ?_
      refine ab_istore_n (pc2 := 16) (lo2 := [some (va_rf _), some (.int _), some (.int _)]) dX9_changeLaw_15 rfl (by decide) rfl ?_
      refine ab_aload_n (x := _) (pc2 := 17) dX9_changeLaw_16 rfl rfl ?_
      refine ab_iload_n (pc2 := 18) dX9_changeLaw_17 rfl rfl ?_
      obtain ⟨h3, eh3, hf⟩ := ab_let_x hf
      refine ab_putI (pc2 := 21) rfl ht0 fa_X9_34 (Or.inl rfl) (fun z => by cases z) dX9_changeLaw_18 rfl ?_
      refine ab_topH eh3 ?_
      refine ab_iload_n (pc2 := 22) dX9_changeLaw_21 rfl rfl ?_
      cases Option.some.inj hf
      exact ab_retI dX9_changeLaw_22 (Or.inl rfl) (Nat.le_refl _) (Nat.le_refl _) ⟨rfl, rfl⟩
    · refine ab_iconst (pc2 := 10) (v := (-1)) dX9_changeLaw_9 rfl ab_k_iconst_m1 ?_
      cases Option.some.inj hf
      exact ab_retI dX9_changeLaw_10 (Or.inl rfl) (Nat.le_refl _) (Nat.le_refl _) ⟨rfl, rfl⟩
set_option maxHeartbeats 4000000 in
set_option maxRecDepth 100000 in
theorem m_X9_changeLaw {d : Nat} {t0 : Nat} {i1 : Int32} {h : ab_HP} {r : (Int32 × ab_HP)} (ht0 : (ab_shp t0).1 = 1) (hf : f_X9_changeLaw t0 i1 h = some r) : ab_MET mX9_changeLaw (d + 0) 0 0 [va_rf (some t0), .int i1] h (ab_Pi r.1 r.2) := ab_met (by decide +kernel) (by decide +kernel) (Nat.le_of_ble_eq_true rfl) rfl (x_X9_changeLaw ht0 hf)
set_option maxHeartbeats 4000000 in
set_option maxRecDepth 100000 in
theorem x_X9_take {d : Nat} {t0 : Nat} {i1 : Option Nat} {i2 : Int32} {h : ab_HP} {r : (Int32 × ab_HP)} (ht0 : (ab_shp t0).1 = 1) (T_i1 : ∀ z, i1 = some z → (ab_shp z).1 = 3) (hf : f_X9_take t0 i1 i2 h = some r) : ab_T mX9_take (d + 5) 1 14 0 0 0 [some (va_rf (some t0)), some (va_rf i1), some (.int i2)] [] h (ab_Pb r.1 r.2) := by
  unfold f_X9_take at hf
  refine ab_aload_n (x := _) (pc2 := 1) dX9_take_0 rfl rfl ?_
  refine ab_iload_n (pc2 := 2) dX9_take_1 rfl rfl ?_
  obtain ⟨q1, hq1, hf⟩ := ab_bind hf
  obtain ⟨w2, ew2, hf⟩ := ab_bind hf
  refine ab_callV (pc2 := 5) (st := []) hq1 (T_i1 q1 hq1) (by decide) (m_X6_read (d := (d + 3)) (T_i1 q1 hq1) ew2) mf_X6_read tw_25 tw_24 ts_X6_read (Or.inl (by decide +kernel)) dX9_take_2 rfl (by omega) (by omega) (by omega) rfl (Nat.le_of_ble_eq_true rfl) (ab_kPi ?_)
  rcases ab_cas hf with ⟨s3, hf⟩ | ⟨s3, hf⟩
  · refine ab_lswK (tgt := 76) (off := 71) dX9_take_5 s3 (by decide +kernel) (by decide +kernel) (by decide) ?_
    refine ab_aload_n (x := _) (pc2 := 77) dX9_take_76 rfl rfl ?_
    refine ab_aload_n (x := _) (pc2 := 78) dX9_take_77 rfl rfl ?_
    refine ab_iload_n (pc2 := 79) dX9_take_78 rfl rfl ?_
    refine ab_iconst (pc2 := 80) (v := 1) dX9_take_79 rfl ab_k_iconst_1 ?_
    refine ab_iadd (pc2 := 81) dX9_take_80 rfl ?_
    obtain ⟨w4, ew4, hf⟩ := ab_bind hf
    refine ab_callS (pc2 := 84) (st := [_]) (m_X9_number (d := (d + 2)) T_i1 ew4) mf_X9_number tw_58 tw_59 dX9_take_81 rfl (by omega) (by omega) (by omega) rfl (Nat.le_of_ble_eq_true rfl) (ab_kPi ?_)
    obtain ⟨w5, ew5, hf⟩ := ab_bind hf
    refine ab_callV (pc2 := 87) (st := []) rfl ht0 (by decide) (m_X9_changeCoins (d := (d + 4)) ht0 ew5) mf_X9_changeCoins tw_75 tw_74 ts_X9_changeCoins (Or.inl (by decide +kernel)) dX9_take_84 rfl (by omega) (by omega) (by omega) rfl (Nat.le_of_ble_eq_true rfl) (ab_kPi ?_)
    refine ab_if_lt (tgt := 94) (pc2 := 90) dX9_take_87 (by decide) rfl hf (fun c6 hf => ?_) (fun c6 hf => ?_)
    · refine ab_iconst (pc2 := 95) (v := 0) dX9_take_94 rfl ab_k_iconst_0 ?_
      cases Option.some.inj hf
      exact ab_retI dX9_take_95 (Or.inr ⟨rfl, (Or.inl rfl)⟩) (by omega) (by omega) ⟨rfl, rfl, (Or.inl rfl)⟩
    · refine ab_iconst (pc2 := 91) (v := 1) dX9_take_90 rfl ab_k_iconst_1 ?_
      refine ab_goto (tgt := 95) dX9_take_91 (by decide) ?_
      cases Option.some.inj hf
      exact ab_retI dX9_take_95 (Or.inr ⟨rfl, (Or.inr rfl)⟩) (by omega) (by omega) ⟨rfl, rfl, (Or.inr rfl)⟩
  rcases ab_cas hf with ⟨s7, hf⟩ | ⟨s7, hf⟩
  · refine ab_lswK (tgt := 48) (off := 43) dX9_take_5 s7 (by decide +kernel) (by decide +kernel) (by decide) ?_
    refine ab_aload_n (x := _) (pc2 := 49) dX9_take_48 rfl rfl ?_
    refine ab_aload_n (x := _) (pc2 := 50) dX9_take_49 rfl rfl ?_
    refine ab_aload_n (x := _) (pc2 := 51) dX9_take_50 rfl rfl ?_
    refine ab_iload_n (pc2 := 52) dX9_take_51 rfl rfl ?_
    refine ab_iconst (pc2 := 53) (v := 1) dX9_take_52 rfl ab_k_iconst_1 ?_
    refine ab_iadd (pc2 := 54) dX9_take_53 rfl ?_
    obtain ⟨w8, ew8, hf⟩ := ab_bind hf
    refine ab_callV (pc2 := 57) (st := [_]) rfl ht0 (by decide) (m_X9_newDeed (d := (d + 0)) ht0 T_i1 ew8) mf_X9_newDeed tw_77 tw_76 ts_X9_newDeed (Or.inl (by decide +kernel)) dX9_take_54 rfl (by omega) (by omega) (by omega) rfl (Nat.le_of_ble_eq_true rfl) (ab_kPr fun T9 => ?_)
    obtain ⟨w10, ew10, hf⟩ := ab_bind hf
    refine ab_callV (pc2 := 60) (st := []) rfl ht0 (by decide) (m_X9_takeDeed (d := (d + 4)) ht0 T9 ew10) mf_X9_takeDeed tw_79 tw_78 ts_X9_takeDeed (Or.inl (by decide +kernel)) dX9_take_57 rfl (by omega) (by omega) (by omega) rfl (Nat.le_of_ble_eq_true rfl) (ab_kPb fun z11 => ?_)
    cases Option.some.inj hf
    exact ab_retI dX9_take_60 (Or.inr ⟨rfl, z11⟩) (by omega) (by omega) ⟨rfl, rfl, z11⟩
  rcases ab_cas hf with ⟨s12, hf⟩ | ⟨s12, hf⟩
  · refine ab_lswK (tgt := 61) (off := 56) dX9_take_5 s12 (by decide +kernel) (by decide +kernel) (by decide) ?_
    refine ab_aload_n (x := _) (pc2 := 62) dX9_take_61 rfl rfl ?_
    refine ab_aload_n (x := _) (pc2 := 63) dX9_take_62 rfl rfl ?_
    refine ab_iload_n (pc2 := 64) dX9_take_63 rfl rfl ?_
    refine ab_iconst (pc2 := 65) (v := 1) dX9_take_64 rfl ab_k_iconst_1 ?_
    refine ab_iadd (pc2 := 66) dX9_take_65 rfl ?_
    obtain ⟨w13, ew13, hf⟩ := ab_bind hf
    refine ab_callV (pc2 := 69) (st := [_]) hq1 (T_i1 q1 hq1) (by decide) (m_X6_read (d := (d + 3)) (T_i1 q1 hq1) ew13) mf_X6_read tw_25 tw_24 ts_X6_read (Or.inl (by decide +kernel)) dX9_take_66 rfl (by omega) (by omega) (by omega) rfl (Nat.le_of_ble_eq_true rfl) (ab_kPi ?_)
    refine ab_bipush (pc2 := 71) (v := 97) dX9_take_69 rfl ab_k_bipush_97 ?_
    refine ab_isub (pc2 := 72) dX9_take_71 rfl ?_
    obtain ⟨w14, ew14, hf⟩ := ab_bind hf
    refine ab_callV (pc2 := 75) (st := []) rfl ht0 (by decide) (m_X9_takeMark (d := (d + 4)) ht0 ew14) mf_X9_takeMark tw_81 tw_80 ts_X9_takeMark (Or.inl (by decide +kernel)) dX9_take_72 rfl (by omega) (by omega) (by omega) rfl (Nat.le_of_ble_eq_true rfl) (ab_kPb fun z15 => ?_)
    cases Option.some.inj hf
    exact ab_retI dX9_take_75 (Or.inr ⟨rfl, z15⟩) (by omega) (by omega) ⟨rfl, rfl, z15⟩
  rcases ab_cas hf with ⟨s16, hf⟩ | ⟨s16, hf⟩
  · refine ab_lswK (tgt := 96) (off := 91) dX9_take_5 s16 (by decide +kernel) (by decide +kernel) (by decide) ?_
    refine ab_aload_n (x := _) (pc2 := 97) dX9_take_96 rfl rfl ?_
    refine ab_aload_n (x := _) (pc2 := 98) dX9_take_97 rfl rfl ?_
    refine ab_iload_n (pc2 := 99) dX9_take_98 rfl rfl ?_
    refine ab_iconst (pc2 := 100) (v := 1) dX9_take_99 rfl ab_k_iconst_1 ?_
    refine ab_iadd (pc2 := 101) dX9_take_100 rfl ?_
    obtain ⟨w17, ew17, hf⟩ := ab_bind hf
    refine ab_callV (pc2 := 104) (st := []) rfl ht0 (by decide) (m_X9_takeNail (d := (d + 0)) ht0 T_i1 ew17) mf_X9_takeNail tw_83 tw_82 ts_X9_takeNail (Or.inl (by decide +kernel)) dX9_take_101 rfl (by omega) (by omega) (by omega) rfl (Nat.le_of_ble_eq_true rfl) (ab_kPb fun z18 => ?_)
    cases Option.some.inj hf
    exact ab_retI dX9_take_104 (Or.inr ⟨rfl, z18⟩) (by omega) (by omega) ⟨rfl, rfl, z18⟩
  refine ab_lsw (tgt := 105) (off := 100) dX9_take_5 (by decide +kernel) (by show Op.lookupswitch.offset [(99, 71), (100, 43), (109, 56), (110, 91)] _ _ = _; rw [lv_osw s3 (by decide), lv_osw s7 (by decide), lv_osw s12 (by decide), lv_osw s16 (by decide)]; rfl) (by decide) ?_
  refine ab_aload_n (x := _) (pc2 := 106) dX9_take_105 rfl rfl ?_
  refine ab_aload_n (x := _) (pc2 := 107) dX9_take_106 rfl rfl ?_
  refine ab_iload_n (pc2 := 108) dX9_take_107 rfl rfl ?_
  refine ab_iconst (pc2 := 109) (v := 1) dX9_take_108 rfl ab_k_iconst_1 ?_
  refine ab_iadd (pc2 := 110) dX9_take_109 rfl ?_
  obtain ⟨w19, ew19, hf⟩ := ab_bind hf
  refine ab_callS (pc2 := 113) (st := [_]) (m_X9_number (d := (d + 2)) T_i1 ew19) mf_X9_number tw_58 tw_59 dX9_take_110 rfl (by omega) (by omega) (by omega) rfl (Nat.le_of_ble_eq_true rfl) (ab_kPi ?_)
  obtain ⟨w20, ew20, hf⟩ := ab_bind hf
  refine ab_callV (pc2 := 116) (st := []) rfl ht0 (by decide) (m_X9_changeLaw (d := (d + 4)) ht0 ew20) mf_X9_changeLaw tw_85 tw_84 ts_X9_changeLaw (Or.inl (by decide +kernel)) dX9_take_113 rfl (by omega) (by omega) (by omega) rfl (Nat.le_of_ble_eq_true rfl) (ab_kPi ?_)
  refine ab_if_lt (tgt := 123) (pc2 := 119) dX9_take_116 (by decide) rfl hf (fun c21 hf => ?_) (fun c21 hf => ?_)
  · refine ab_iconst (pc2 := 124) (v := 0) dX9_take_123 rfl ab_k_iconst_0 ?_
    cases Option.some.inj hf
    exact ab_retI dX9_take_124 (Or.inr ⟨rfl, (Or.inl rfl)⟩) (by omega) (by omega) ⟨rfl, rfl, (Or.inl rfl)⟩
  · refine ab_iconst (pc2 := 120) (v := 1) dX9_take_119 rfl ab_k_iconst_1 ?_
    refine ab_goto (tgt := 124) dX9_take_120 (by decide) ?_
    cases Option.some.inj hf
    exact ab_retI dX9_take_124 (Or.inr ⟨rfl, (Or.inr rfl)⟩) (by omega) (by omega) ⟨rfl, rfl, (Or.inr rfl)⟩
set_option maxHeartbeats 4000000 in
set_option maxRecDepth 100000 in
theorem m_X9_take {d : Nat} {t0 : Nat} {i1 : Option Nat} {i2 : Int32} {h : ab_HP} {r : (Int32 × ab_HP)} (ht0 : (ab_shp t0).1 = 1) (T_i1 : ∀ z, i1 = some z → (ab_shp z).1 = 3) (hf : f_X9_take t0 i1 i2 h = some r) : ab_MET mX9_take (d + 5) 1 14 [va_rf (some t0), va_rf i1, .int i2] h (ab_Pb r.1 r.2) := ab_met (by decide +kernel) (by decide +kernel) (by simp [ab_lo, ab_rf1, ab_cI, ab_cJ]) (by simp [ab_lo0, ab_lo, ab_rf1, ab_cI, ab_cJ, List.replicate]) (x_X9_take ht0 T_i1 hf)
set_option maxHeartbeats 4000000 in
set_option maxRecDepth 100000 in
theorem x_X9_read_b24 {d : Nat} {k4 : Option Nat → Int32 → Int32 → ab_HP → Option (Int32 × ab_HP)} {t0 : Nat} {i1 : Option Nat} {i2 : Int32} {i3 : Int32} {c s : Nat} {h : ab_HP} {r : (Int32 × ab_HP)} (ht0 : (ab_shp t0).1 = 1) (hk4 : ∀ (i1 : Option Nat) (i2 : Int32) (i3 : Int32) (h : ab_HP) (c s : Nat), c + 101 ≤ 101 → s + 1414 ≤ 1414 →  (∀ z, i1 = some z → (ab_shp z).1 = 3) → k4 i1 i2 i3 h = some r → ab_T mX9_read (d + 6) 101 1414 c s 4 [some (va_rf (some t0)), some (va_rf i1), some (.int i2), some (.int i3), none] [] h (ab_Pi r.1 r.2)) (hc : c + 101 ≤ 101) (hs : s + 1414 ≤ 1414) (T_i1 : ∀ z, i1 = some z → (ab_shp z).1 = 3) (hf : f_X9_read_b24 k4 t0 i1 i2 i3 h = some r) : ab_T mX9_read (d + 6) 101 1414 c s 24 [some (va_rf (some t0)), some (va_rf i1), some (.int i2), some (.int i3), none] [] h (ab_Pi r.1 r.2) := by
  unfold f_X9_read_b24 at hf
  refine ab_aload_n (x := _) (pc2 := 25) dX9_read_24 rfl rfl ?_
  refine ab_iload_n (pc2 := 26) dX9_read_25 rfl rfl ?_
  obtain ⟨w5, ew5, hf⟩ := ab_bind hf
  refine ab_callS (pc2 := 29) (st := []) (m_X9_behindStatement (d := (d + 0)) T_i1 ew5) mf_X9_behindStatement tw_86 tw_87 dX9_read_26 rfl (by omega) (by omega) (by omega) rfl (Nat.le_of_ble_eq_true rfl) (ab_kPi ?_)
  refine ab_istore_n (pc2 := 30) (lo2 := [some (va_rf _), some (va_rf _), some (.int _), some (.int _), none]) dX9_read_29 rfl (by decide) rfl ?_
  refine ab_iload_n (pc2 := 31) dX9_read_30 rfl rfl ?_
  refine ab_if_ge (tgt := 43) (pc2 := 34) dX9_read_31 (by decide) rfl hf (fun c6 hf => ?_) (fun c6 hf => ?_)
  · refine ab_iinc (pc2 := 46) (v := _ + 1) (lo2 := [some (va_rf _), some (va_rf _), some (.int _), some (.int _), none]) dX9_read_43 rfl rfl rfl (by decide) (ab_st1_rf (j := 1) rfl rfl) ?_
    refine ab_goto (tgt := 4) dX9_read_46 (by decide) ?_
    exact ab_weak (hk4 _ _ _ _ _ _ (by omega) (by omega) T_i1 hf) (ab_leS (ab_leS (ab_leS (ab_leS (ab_leN ab_le0)))))
  · refine ab_sipush (pc2 := 37) (v := (-1000)) dX9_read_34 rfl ab_k_sipush_m1000 ?_
    refine ab_iload_n (pc2 := 38) dX9_read_37 rfl rfl ?_
    obtain ⟨w7, ew7, hf⟩ := ab_bind hf
    refine ab_callS (pc2 := 41) (st := [_]) (m_X9_faultAt (d := (d + 5)) ew7) mf_X9_faultAt tw_88 tw_89 dX9_read_38 rfl (by omega) (by omega) (by omega) rfl (Nat.le_of_ble_eq_true rfl) (ab_kPi ?_)
    refine ab_isub (pc2 := 42) dX9_read_41 rfl ?_
    cases Option.some.inj hf
    exact ab_retI dX9_read_42 (Or.inl rfl) (by omega) (by omega) ⟨rfl, rfl⟩
set_option maxHeartbeats 4000000 in
set_option maxRecDepth 100000 in
theorem x_X9_read_l54 {d : Nat} {t0 : Nat} {r : (Int32 × ab_HP)} (ht0 : (ab_shp t0).1 = 1) : ∀ (n : Nat) (i1 : Option Nat) (i2 : Int32) (i3 : Int32) (i4 : Int32) (h : ab_HP) (c s : Nat), c + n * 1 + 0 ≤ 101 → s + n * 14 + 0 ≤ 1414 →  (∀ z, i1 = some z → (ab_shp z).1 = 3) → f_X9_read_l54 t0 n i1 i2 i3 i4 h = some r → ab_T mX9_read (d + 6) 101 1414 c s 54 [some (va_rf (some t0)), some (va_rf i1), some (.int i2), some (.int i3), some (.int i4)] [] h (ab_Pi r.1 r.2) := by
  intro n
  induction n with
  | zero =>
    intro i1 i2 i3 i4 h c s hc hs T_i1 hf
    rw [f_X9_read_l54] at hf
    cases hf
  | succ n ih =>
    intro i1 i2 i3 i4 h c s hc hs T_i1 hf
    rw [f_X9_read_l54] at hf
    refine ab_iload (pc2 := 56) dX9_read_54 rfl rfl ?_
    refine ab_iload_n (pc2 := 57) dX9_read_56 rfl rfl ?_
    refine ab_icmp_ge (tgt := 87) (pc2 := 60) dX9_read_57 (by decide) rfl hf (fun c8 hf => ?_) (fun c8 hf => ?_)
    · refine ab_iload_n (pc2 := 88) dX9_read_87 rfl rfl ?_
      cases Option.some.inj hf
      exact ab_retI dX9_read_88 (Or.inl rfl) (by omega) (by omega) ⟨rfl, rfl⟩
    · refine ab_aload_n (x := _) (pc2 := 61) dX9_read_60 rfl rfl ?_
      refine ab_aload_n (x := _) (pc2 := 62) dX9_read_61 rfl rfl ?_
      refine ab_iload_n (pc2 := 63) dX9_read_62 rfl rfl ?_
      obtain ⟨w9, ew9, hf⟩ := ab_bind hf
      refine ab_callV (pc2 := 66) (st := []) rfl ht0 (by decide) (m_X9_take (d := (d + 0)) ht0 T_i1 ew9) mf_X9_take tw_91 tw_90 ts_X9_take (Or.inl (by decide +kernel)) dX9_read_63 rfl (by omega) (by omega) (by omega) rfl (Nat.le_of_ble_eq_true rfl) (ab_kPb fun z10 => ?_)
      refine ab_if_ne (tgt := 75) (pc2 := 69) dX9_read_66 (by decide) rfl hf (fun c11 hf => ?_) (fun c11 hf => ?_)
      · refine ab_aload_n (x := _) (pc2 := 76) dX9_read_75 rfl rfl ?_
        refine ab_iload_n (pc2 := 77) dX9_read_76 rfl rfl ?_
        obtain ⟨w12, ew12, hf⟩ := ab_bind hf
        refine ab_callS (pc2 := 80) (st := []) (m_X9_behindStatement (d := (d + 0)) T_i1 ew12) mf_X9_behindStatement tw_86 tw_87 dX9_read_77 rfl (by omega) (by omega) (by omega) rfl (Nat.le_of_ble_eq_true rfl) (ab_kPi ?_)
        refine ab_istore_n (pc2 := 81) (lo2 := [some (va_rf _), some (va_rf _), some (.int _), some (.int _), some (.int _)]) dX9_read_80 rfl (by decide) rfl ?_
        refine ab_iinc (pc2 := 84) (v := _ + 1) (lo2 := [some (va_rf _), some (va_rf _), some (.int _), some (.int _), some (.int _)]) dX9_read_81 rfl rfl rfl (by decide) rfl ?_
        refine ab_goto (tgt := 54) dX9_read_84 (by decide) ?_
        exact ab_weak (ih _ _ _ _ _ _ _ (by omega) (by omega) T_i1 hf) (ab_leS (ab_leS (ab_leS (ab_leS (ab_leS ab_le0)))))
      · refine ab_sipush (pc2 := 72) (v := (-2000)) dX9_read_69 rfl ab_k_sipush_m2000 ?_
        refine ab_iload_n (pc2 := 73) dX9_read_72 rfl rfl ?_
        refine ab_isub (pc2 := 74) dX9_read_73 rfl ?_
        cases Option.some.inj hf
        exact ab_retI dX9_read_74 (Or.inl rfl) (by omega) (by omega) ⟨rfl, rfl⟩
set_option maxHeartbeats 4000000 in
set_option maxRecDepth 100000 in
theorem x_X9_read_b49 {d : Nat} {t0 : Nat} {i1 : Option Nat} {i2 : Int32} {c s : Nat} {h : ab_HP} {r : (Int32 × ab_HP)} (ht0 : (ab_shp t0).1 = 1) (hc : c + 101 ≤ 101) (hs : s + 1414 ≤ 1414) (T_i1 : ∀ z, i1 = some z → (ab_shp z).1 = 3) (hf : f_X9_read_b49 t0 i1 i2 h = some r) : ab_T mX9_read (d + 6) 101 1414 c s 49 [some (va_rf (some t0)), some (va_rf i1), some (.int i2), none, none] [] h (ab_Pi r.1 r.2) := by
  unfold f_X9_read_b49 at hf
  refine ab_iconst (pc2 := 50) (v := 0) dX9_read_49 rfl ab_k_iconst_0 ?_
  refine ab_istore_n (pc2 := 51) (lo2 := [some (va_rf _), some (va_rf _), some (.int _), some (.int _), none]) dX9_read_50 rfl (by decide) rfl ?_
  refine ab_iconst (pc2 := 52) (v := 0) dX9_read_51 rfl ab_k_iconst_0 ?_
  refine ab_istore (pc2 := 54) (lo2 := [some (va_rf _), some (va_rf _), some (.int _), some (.int _), some (.int _)]) dX9_read_52 rfl (by decide) rfl ?_
  exact ab_weak (x_X9_read_l54 ht0 _ _ _ _ _ _ _ _ (by omega) (by omega) T_i1 hf) (ab_leS (ab_leS (ab_leS (ab_leS (ab_leS ab_le0)))))
set_option maxHeartbeats 4000000 in
set_option maxRecDepth 100000 in
theorem x_X9_read_l4 {d : Nat} {t0 : Nat} {r : (Int32 × ab_HP)} (ht0 : (ab_shp t0).1 = 1) : ∀ (n : Nat) (i1 : Option Nat) (i2 : Int32) (i3 : Int32) (h : ab_HP) (c s : Nat), c + n * 0 + 101 ≤ 101 → s + n * 0 + 1414 ≤ 1414 →  (∀ z, i1 = some z → (ab_shp z).1 = 3) → f_X9_read_l4 t0 n i1 i2 i3 h = some r → ab_T mX9_read (d + 6) 101 1414 c s 4 [some (va_rf (some t0)), some (va_rf i1), some (.int i2), some (.int i3), none] [] h (ab_Pi r.1 r.2) := by
  intro n
  induction n with
  | zero =>
    intro i1 i2 i3 h c s hc hs T_i1 hf
    rw [f_X9_read_l4] at hf
    cases hf
  | succ n ih =>
    intro i1 i2 i3 h c s hc hs T_i1 hf
    rw [f_X9_read_l4] at hf
    refine ab_iload_n (pc2 := 5) dX9_read_4 rfl rfl ?_
    refine ab_if_eq (tgt := 24) (pc2 := 8) dX9_read_5 (by decide) rfl hf (fun c1 hf => ?_) (fun c1 hf => ?_)
    · exact ab_weak (x_X9_read_b24 ht0 ih (by omega) (by omega) T_i1 hf) (ab_leS (ab_leS (ab_leS (ab_leS (ab_leN ab_le0)))))
    · refine ab_iload_n (pc2 := 9) dX9_read_8 rfl rfl ?_
      refine ab_aload_n (x := _) (pc2 := 10) dX9_read_9 rfl rfl ?_
      obtain ⟨q2, hq2, hf⟩ := ab_bind hf
      refine ab_getI (pc2 := 13) hq2 (T_i1 q2 hq2) fa_X9_43 (by decide) dX9_read_10 rfl ?_
      refine ab_icmp_ge (tgt := 49) (pc2 := 16) dX9_read_13 (by decide) rfl hf (fun c3 hf => ?_) (fun c3 hf => ?_)
      · exact ab_weak (x_X9_read_b49 ht0 (by omega) (by omega) T_i1 hf) (ab_leS (ab_leS (ab_leS (ab_leN (ab_leN ab_le0)))))
      · refine ab_iload_n (pc2 := 17) dX9_read_16 rfl rfl ?_
        refine ab_aload_n (x := _) (pc2 := 18) dX9_read_17 rfl rfl ?_
        refine ab_getI (pc2 := 21) hq2 (T_i1 q2 hq2) fa_X9_43 (by decide) dX9_read_18 rfl ?_
        refine ab_icmp_ge (tgt := 49) (pc2 := 24) dX9_read_21 (by decide) rfl hf (fun c4 hf => ?_) (fun c4 hf => ?_)
        · exact ab_weak (x_X9_read_b49 ht0 (by omega) (by omega) T_i1 hf) (ab_leS (ab_leS (ab_leS (ab_leN (ab_leN ab_le0)))))
        · exact ab_weak (x_X9_read_b24 ht0 ih (by omega) (by omega) T_i1 hf) (ab_leS (ab_leS (ab_leS (ab_leS (ab_leN ab_le0)))))
set_option maxHeartbeats 4000000 in
set_option maxRecDepth 100000 in
theorem x_X9_read {d : Nat} {t0 : Nat} {i1 : Option Nat} {h : ab_HP} {r : (Int32 × ab_HP)} (ht0 : (ab_shp t0).1 = 1) (T_i1 : ∀ z, i1 = some z → (ab_shp z).1 = 3) (hf : f_X9_read t0 i1 h = some r) : ab_T mX9_read (d + 6) 101 1414 0 0 0 [some (va_rf (some t0)), some (va_rf i1), none, none, none] [] h (ab_Pi r.1 r.2) := by
  unfold f_X9_read at hf
  refine ab_iconst (pc2 := 1) (v := 0) dX9_read_0 rfl ab_k_iconst_0 ?_
  refine ab_istore_n (pc2 := 2) (lo2 := [some (va_rf _), some (va_rf _), some (.int _), none, none]) dX9_read_1 rfl (by decide) (ab_st1_rf (j := 1) rfl rfl) ?_
  refine ab_iconst (pc2 := 3) (v := 0) dX9_read_2 rfl ab_k_iconst_0 ?_
  refine ab_istore_n (pc2 := 4) (lo2 := [some (va_rf _), some (va_rf _), some (.int _), some (.int _), none]) dX9_read_3 rfl (by decide) rfl ?_
  exact ab_weak (x_X9_read_l4 ht0 _ _ _ _ _ _ _ (by omega) (by omega) T_i1 hf) (ab_leS (ab_leS (ab_leS (ab_leS (ab_leN ab_le0)))))
set_option maxHeartbeats 4000000 in
set_option maxRecDepth 100000 in
theorem m_X9_read {d : Nat} {t0 : Nat} {i1 : Option Nat} {h : ab_HP} {r : (Int32 × ab_HP)} (ht0 : (ab_shp t0).1 = 1) (T_i1 : ∀ z, i1 = some z → (ab_shp z).1 = 3) (hf : f_X9_read t0 i1 h = some r) : ab_MET mX9_read (d + 6) 101 1414 [va_rf (some t0), va_rf i1] h (ab_Pi r.1 r.2) := ab_met (by decide +kernel) (by decide +kernel) (by simp [ab_lo, ab_rf1, ab_cI, ab_cJ]) (by simp [ab_lo0, ab_lo, ab_rf1, ab_cI, ab_cJ, List.replicate]) (x_X9_read ht0 T_i1 hf)
set_option maxHeartbeats 4000000 in
set_option maxRecDepth 100000 in
theorem x_X1_hasGround {d : Nat} {t0 : Nat} {i1 : Int32} {h : ab_HP} {r : Int32} (ht0 : (ab_shp t0).1 = 4) (hf : f_X1_hasGround t0 i1 h = some r) : ab_T mX1_hasGround (d + 0) 0 0 0 0 0 [some (va_rf (some t0)), some (.int i1)] [] h (ab_Pb r h) := by
  unfold f_X1_hasGround at hf
  refine ab_aload_n (x := _) (pc2 := 1) dX1_hasGround_0 rfl rfl ?_
  refine ab_getI (pc2 := 4) rfl ht0 fa_X1_21 (by decide) dX1_hasGround_1 rfl ?_
  refine ab_iload_n (pc2 := 5) dX1_hasGround_4 rfl rfl ?_
  refine ab_iconst (pc2 := 6) (v := (-1)) dX1_hasGround_5 rfl ab_k_iconst_m1 ?_
  refine ab_ixor (pc2 := 7) dX1_hasGround_6 rfl ?_
  refine ab_iand (pc2 := 8) dX1_hasGround_7 rfl ?_
  refine ab_if_ne (tgt := 15) (pc2 := 11) dX1_hasGround_8 (by decide) rfl hf (fun c1 hf => ?_) (fun c1 hf => ?_)
  · refine ab_iconst (pc2 := 16) (v := 0) dX1_hasGround_15 rfl ab_k_iconst_0 ?_
    cases Option.some.inj hf
    exact ab_retI dX1_hasGround_16 (Or.inr ⟨rfl, (Or.inl rfl)⟩) (Nat.le_refl _) (Nat.le_refl _) ⟨rfl, rfl, (Or.inl rfl)⟩
  · refine ab_iconst (pc2 := 12) (v := 1) dX1_hasGround_11 rfl ab_k_iconst_1 ?_
    refine ab_goto (tgt := 16) dX1_hasGround_12 (by decide) ?_
    cases Option.some.inj hf
    exact ab_retI dX1_hasGround_16 (Or.inr ⟨rfl, (Or.inr rfl)⟩) (Nat.le_refl _) (Nat.le_refl _) ⟨rfl, rfl, (Or.inr rfl)⟩
set_option maxHeartbeats 4000000 in
set_option maxRecDepth 100000 in
theorem m_X1_hasGround {d : Nat} {t0 : Nat} {i1 : Int32} {h : ab_HP} {r : Int32} (ht0 : (ab_shp t0).1 = 4) (hf : f_X1_hasGround t0 i1 h = some r) : ab_MET mX1_hasGround (d + 0) 0 0 [va_rf (some t0), .int i1] h (ab_Pb r h) := ab_met (by decide +kernel) (by decide +kernel) (Nat.le_of_ble_eq_true rfl) rfl (x_X1_hasGround ht0 hf)
