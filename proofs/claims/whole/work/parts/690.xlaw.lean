set_option maxHeartbeats 4000000 in
set_option maxRecDepth 100000 in
theorem x_L_law_l23 {d : Nat} {L : Nat} {xs : Nat → Int32} {r : (Int32 × ab_HP)}  : ∀ (n : Nat) (i1 : Option Nat) (i2 : Option Nat) (i3 : Option Nat) (i4 : Int32) (h : ab_HP) (c s : Nat), c + n * 120 + 0 ≤ 601024 → s + n * 1600 + 0 ≤ 7293034 →  (∀ z, i1 = some z → (ab_shp z).1 = 0) → (∀ z, i2 = some z → (ab_shp z).1 = 5) → (∀ z, i3 = some z → (ab_shp z).1 = 7) → f_L_law_l23 L xs n i1 i2 i3 i4 h = some r → ab_T (mL_law L xs) (d + 58) 601024 7293034 c s 23 [some (.float 0), some (va_rf i1), some (va_rf i2), some (va_rf i3), some (.int i4), none, none, none] [] h (ab_Pb r.1 r.2) := by
  intro n
  induction n with
  | zero =>
    intro i1 i2 i3 i4 h c s hc hs T_i1 T_i2 T_i3 hf
    rw [f_L_law_l23] at hf
    cases hf
  | succ n ih =>
    intro i1 i2 i3 i4 h c s hc hs T_i1 T_i2 T_i3 hf
    rw [f_L_law_l23] at hf
    refine ab_iload (pc2 := 25) dL_law_23 rfl rfl ?_
    refine ab_aload_nS (pc2 := 26) dL_law_25 rfl rfl ?_
    refine ab_slen (pc2 := 27) rfl dL_law_26 rfl ?_
    refine ab_bipush (pc2 := 29) (v := 6) dL_law_27 rfl ab_k_bipush_6 ?_
    refine ab_isub (pc2 := 30) dL_law_29 rfl ?_
    refine ab_icmp_gt (tgt := 1397) (pc2 := 33) dL_law_30 (by decide) rfl hf (fun c9 hf => ?_) (fun c9 hf => ?_)
    · refine ab_iconst (pc2 := 1398) (v := 1) dL_law_1397 rfl ab_k_iconst_1 ?_
      cases Option.some.inj hf
      exact ab_retI dL_law_1398 (Or.inr ⟨rfl, (Or.inr rfl)⟩) (by omega) (by omega) ⟨rfl, rfl, (Or.inr rfl)⟩
    · refine ab_aload_nS (pc2 := 34) dL_law_33 rfl rfl ?_
      refine ab_iload (pc2 := 36) dL_law_34 rfl rfl ?_
      obtain ⟨b10, hf⟩ := ab_guard hf
      refine ab_sld (pc2 := 37) rfl (ab_in_vp b10) dL_law_36 rfl ?_
      refine ab_topI (v := xs i4.toNatClampNeg) rfl ?_
      refine ab_bipush (pc2 := 39) (v := 63) dL_law_37 rfl ab_k_bipush_63 ?_
      refine ab_iand (pc2 := 40) dL_law_39 rfl ?_
      rcases ab_cas hf with ⟨s11, hf⟩ | ⟨s11, hf⟩
      · refine ab_tswK (tgt := 188) (off := 148) dL_law_40 s11 (by decide) (by decide) (by decide +kernel) (by decide) ?_
        refine ab_aload_n (x := _) (pc2 := 189) dL_law_188 rfl rfl ?_
        refine ab_aload_nS (pc2 := 190) dL_law_189 rfl rfl ?_
        refine ab_iload (pc2 := 192) dL_law_190 rfl rfl ?_
        refine ab_iconst (pc2 := 193) (v := 1) dL_law_192 rfl ab_k_iconst_1 ?_
        refine ab_iadd (pc2 := 194) dL_law_193 rfl ?_
        obtain ⟨b12, hf⟩ := ab_guard hf
        refine ab_sld (pc2 := 195) rfl (ab_in_vp b12) dL_law_194 rfl ?_
        refine ab_topI (v := xs (i4 + (1 : Int32)).toNatClampNeg) rfl ?_
        obtain ⟨q13, hq13, hf⟩ := ab_bind hf
        obtain ⟨w14, ew14, hf⟩ := ab_bind hf
        refine ab_callV (pc2 := 198) (st := []) hq13 (T_i1 q13 hq13) (by decide) (m_X11_town (d := (d + 50)) (T_i1 q13 hq13) ew14) mf_X11_town tw_353 tw_352 ts_X11_town (Or.inl (by decide +kernel)) dL_law_195 rfl (by omega) (by omega) (by omega) rfl (Nat.le_of_ble_eq_true rfl) (ab_kPi ?_)
        refine ab_aload_n (x := _) (pc2 := 199) dL_law_198 rfl rfl ?_
        refine ab_aload_nS (pc2 := 200) dL_law_199 rfl rfl ?_
        refine ab_iload (pc2 := 202) dL_law_200 rfl rfl ?_
        refine ab_iconst (pc2 := 203) (v := 1) dL_law_202 rfl ab_k_iconst_1 ?_
        refine ab_iadd (pc2 := 204) dL_law_203 rfl ?_
        obtain ⟨b15, hf⟩ := ab_guard hf
        refine ab_sld (pc2 := 205) rfl (ab_in_vp b15) dL_law_204 rfl ?_
        refine ab_topI (v := xs (i4 + (1 : Int32)).toNatClampNeg) rfl ?_
        obtain ⟨q16, hq16, hf⟩ := ab_bind hf
        obtain ⟨w17, ew17, hf⟩ := ab_bind hf
        refine ab_callV (pc2 := 208) (st := [_]) hq16 (T_i2 q16 hq16) (by decide) (m_X12_town (d := (d + 52)) (T_i2 q16 hq16) ew17) mf_X12_town tw_355 tw_354 ts_X12_town (Or.inl (by decide +kernel)) dL_law_205 rfl (by omega) (by omega) (by omega) rfl (Nat.le_of_ble_eq_true rfl) (ab_kPi ?_)
        refine ab_icmp_eq (tgt := 1391) (pc2 := 211) dL_law_208 (by decide) rfl hf (fun c18 hf => ?_) (fun c18 hf => ?_)
        · refine ab_iinc (pc2 := 1394) (v := _ + 6) (lo2 := [some (.float 0), some (va_rf _), some (va_rf _), some (va_rf _), some (.int _), none, none, none]) dL_law_1391 rfl rfl rfl (Nat.le_of_ble_eq_true rfl) (ab_st1_rf (j := 3) rfl rfl) ?_
          refine ab_goto (tgt := 23) dL_law_1394 (by decide) ?_
          exact ab_weak (ih _ _ _ _ _ _ _ (by omega) (by omega) T_i1 T_i2 T_i3 hf) (ab_leS (ab_leS (ab_leS (ab_leS (ab_leS (ab_leN (ab_leN (ab_leN ab_le0))))))))
        · refine ab_iconst (pc2 := 212) (v := 0) dL_law_211 rfl ab_k_iconst_0 ?_
          cases Option.some.inj hf
          exact ab_retI dL_law_212 (Or.inr ⟨rfl, (Or.inl rfl)⟩) (by omega) (by omega) ⟨rfl, rfl, (Or.inl rfl)⟩
      rcases ab_cas hf with ⟨s19, hf⟩ | ⟨s19, hf⟩
      · refine ab_tswK (tgt := 213) (off := 173) dL_law_40 s19 (by decide) (by decide) (by decide +kernel) (by decide) ?_
        refine ab_aload_n (x := _) (pc2 := 214) dL_law_213 rfl rfl ?_
        refine ab_aload_nS (pc2 := 215) dL_law_214 rfl rfl ?_
        refine ab_iload (pc2 := 217) dL_law_215 rfl rfl ?_
        refine ab_iconst (pc2 := 218) (v := 1) dL_law_217 rfl ab_k_iconst_1 ?_
        refine ab_iadd (pc2 := 219) dL_law_218 rfl ?_
        obtain ⟨b20, hf⟩ := ab_guard hf
        refine ab_sld (pc2 := 220) rfl (ab_in_vp b20) dL_law_219 rfl ?_
        refine ab_topI (v := xs (i4 + (1 : Int32)).toNatClampNeg) rfl ?_
        refine ab_aload_nS (pc2 := 221) dL_law_220 rfl rfl ?_
        refine ab_iload (pc2 := 223) dL_law_221 rfl rfl ?_
        refine ab_iconst (pc2 := 224) (v := 2) dL_law_223 rfl ab_k_iconst_2 ?_
        refine ab_iadd (pc2 := 225) dL_law_224 rfl ?_
        obtain ⟨b21, hf⟩ := ab_guard hf
        refine ab_sld (pc2 := 226) rfl (ab_in_vp b21) dL_law_225 rfl ?_
        refine ab_topI (v := xs (i4 + (2 : Int32)).toNatClampNeg) rfl ?_
        obtain ⟨q22, hq22, hf⟩ := ab_bind hf
        obtain ⟨w23, ew23, hf⟩ := ab_bind hf
        refine ab_callV (pc2 := 229) (st := []) hq22 (T_i1 q22 hq22) (by decide) (m_X11_deed (d := (d + 56)) (T_i1 q22 hq22) ew23) mf_X11_deed tw_357 tw_356 ts_X11_deed (Or.inl (by decide +kernel)) dL_law_226 rfl (by omega) (by omega) (by omega) rfl (Nat.le_of_ble_eq_true rfl) (ab_kPi ?_)
        refine ab_aload_n (x := _) (pc2 := 230) dL_law_229 rfl rfl ?_
        refine ab_aload_nS (pc2 := 231) dL_law_230 rfl rfl ?_
        refine ab_iload (pc2 := 233) dL_law_231 rfl rfl ?_
        refine ab_iconst (pc2 := 234) (v := 1) dL_law_233 rfl ab_k_iconst_1 ?_
        refine ab_iadd (pc2 := 235) dL_law_234 rfl ?_
        obtain ⟨b24, hf⟩ := ab_guard hf
        refine ab_sld (pc2 := 236) rfl (ab_in_vp b24) dL_law_235 rfl ?_
        refine ab_topI (v := xs (i4 + (1 : Int32)).toNatClampNeg) rfl ?_
        refine ab_aload_nS (pc2 := 237) dL_law_236 rfl rfl ?_
        refine ab_iload (pc2 := 239) dL_law_237 rfl rfl ?_
        refine ab_iconst (pc2 := 240) (v := 2) dL_law_239 rfl ab_k_iconst_2 ?_
        refine ab_iadd (pc2 := 241) dL_law_240 rfl ?_
        obtain ⟨b25, hf⟩ := ab_guard hf
        refine ab_sld (pc2 := 242) rfl (ab_in_vp b25) dL_law_241 rfl ?_
        refine ab_topI (v := xs (i4 + (2 : Int32)).toNatClampNeg) rfl ?_
        obtain ⟨q26, hq26, hf⟩ := ab_bind hf
        obtain ⟨w27, ew27, hf⟩ := ab_bind hf
        refine ab_callV (pc2 := 245) (st := [_]) hq26 (T_i2 q26 hq26) (by decide) (m_X12_deed (d := (d + 54)) (T_i2 q26 hq26) ew27) mf_X12_deed tw_359 tw_358 ts_X12_deed (Or.inl (by decide +kernel)) dL_law_242 rfl (by omega) (by omega) (by omega) rfl (Nat.le_of_ble_eq_true rfl) (ab_kPi ?_)
        refine ab_icmp_eq (tgt := 1391) (pc2 := 248) dL_law_245 (by decide) rfl hf (fun c28 hf => ?_) (fun c28 hf => ?_)
        · refine ab_iinc (pc2 := 1394) (v := _ + 6) (lo2 := [some (.float 0), some (va_rf _), some (va_rf _), some (va_rf _), some (.int _), none, none, none]) dL_law_1391 rfl rfl rfl (Nat.le_of_ble_eq_true rfl) (ab_st1_rf (j := 3) rfl rfl) ?_
          refine ab_goto (tgt := 23) dL_law_1394 (by decide) ?_
          exact ab_weak (ih _ _ _ _ _ _ _ (by omega) (by omega) T_i1 T_i2 T_i3 hf) (ab_leS (ab_leS (ab_leS (ab_leS (ab_leS (ab_leN (ab_leN (ab_leN ab_le0))))))))
        · refine ab_iconst (pc2 := 249) (v := 0) dL_law_248 rfl ab_k_iconst_0 ?_
          cases Option.some.inj hf
          exact ab_retI dL_law_249 (Or.inr ⟨rfl, (Or.inl rfl)⟩) (by omega) (by omega) ⟨rfl, rfl, (Or.inl rfl)⟩
      rcases ab_cas hf with ⟨s29, hf⟩ | ⟨s29, hf⟩
      · refine ab_tswK (tgt := 250) (off := 210) dL_law_40 s29 (by decide) (by decide) (by decide +kernel) (by decide) ?_
        refine ab_aload_n (x := _) (pc2 := 251) dL_law_250 rfl rfl ?_
        obtain ⟨q30, hq30, hf⟩ := ab_bind hf
        obtain ⟨w31, ew31, hf⟩ := ab_bind hf
        refine ab_callV (pc2 := 254) (st := []) hq30 (T_i1 q30 hq30) (by decide) (m_X11_marks (d := (d + 57)) (T_i1 q30 hq30) ew31) mf_X11_marks tw_361 tw_360 ts_X11_marks (Or.inl (by decide +kernel)) dL_law_251 rfl (by omega) (by omega) (by omega) rfl (Nat.le_of_ble_eq_true rfl) (ab_kPi ?_)
        refine ab_aload_n (x := _) (pc2 := 255) dL_law_254 rfl rfl ?_
        obtain ⟨q32, hq32, hf⟩ := ab_bind hf
        obtain ⟨w33, ew33, hf⟩ := ab_bind hf
        refine ab_callV (pc2 := 258) (st := [_]) hq32 (T_i2 q32 hq32) (by decide) (m_X12_marks (d := (d + 57)) (T_i2 q32 hq32) ew33) mf_X12_marks tw_363 tw_362 ts_X12_marks (Or.inl (by decide +kernel)) dL_law_255 rfl (by omega) (by omega) (by omega) rfl (Nat.le_of_ble_eq_true rfl) (ab_kPi ?_)
        refine ab_icmp_eq (tgt := 1391) (pc2 := 261) dL_law_258 (by decide) rfl hf (fun c34 hf => ?_) (fun c34 hf => ?_)
        · refine ab_iinc (pc2 := 1394) (v := _ + 6) (lo2 := [some (.float 0), some (va_rf _), some (va_rf _), some (va_rf _), some (.int _), none, none, none]) dL_law_1391 rfl rfl rfl (Nat.le_of_ble_eq_true rfl) (ab_st1_rf (j := 3) rfl rfl) ?_
          refine ab_goto (tgt := 23) dL_law_1394 (by decide) ?_
          exact ab_weak (ih _ _ _ _ _ _ _ (by omega) (by omega) T_i1 T_i2 T_i3 hf) (ab_leS (ab_leS (ab_leS (ab_leS (ab_leS (ab_leN (ab_leN (ab_leN ab_le0))))))))
        · refine ab_iconst (pc2 := 262) (v := 0) dL_law_261 rfl ab_k_iconst_0 ?_
          cases Option.some.inj hf
          exact ab_retI dL_law_262 (Or.inr ⟨rfl, (Or.inl rfl)⟩) (by omega) (by omega) ⟨rfl, rfl, (Or.inl rfl)⟩
      rcases ab_cas hf with ⟨s35, hf⟩ | ⟨s35, hf⟩
      · refine ab_tswK (tgt := 263) (off := 223) dL_law_40 s35 (by decide) (by decide) (by decide +kernel) (by decide) ?_
        refine ab_aload_n (x := _) (pc2 := 264) dL_law_263 rfl rfl ?_
        refine ab_aload_nS (pc2 := 265) dL_law_264 rfl rfl ?_
        refine ab_iload (pc2 := 267) dL_law_265 rfl rfl ?_
        refine ab_iconst (pc2 := 268) (v := 1) dL_law_267 rfl ab_k_iconst_1 ?_
        refine ab_iadd (pc2 := 269) dL_law_268 rfl ?_
        obtain ⟨b36, hf⟩ := ab_guard hf
        refine ab_sld (pc2 := 270) rfl (ab_in_vp b36) dL_law_269 rfl ?_
        refine ab_topI (v := xs (i4 + (1 : Int32)).toNatClampNeg) rfl ?_
        obtain ⟨q37, hq37, hf⟩ := ab_bind hf
        obtain ⟨w38, ew38, hf⟩ := ab_bind hf
        refine ab_callV (pc2 := 273) (st := []) hq37 (T_i1 q37 hq37) (by decide) (m_X11_state (d := (d + 57)) (T_i1 q37 hq37) ew38) mf_X11_state tw_365 tw_364 ts_X11_state (Or.inl (by decide +kernel)) dL_law_270 rfl (by omega) (by omega) (by omega) rfl (Nat.le_of_ble_eq_true rfl) (ab_kPi ?_)
        refine ab_aload_n (x := _) (pc2 := 274) dL_law_273 rfl rfl ?_
        refine ab_aload_nS (pc2 := 275) dL_law_274 rfl rfl ?_
        refine ab_iload (pc2 := 277) dL_law_275 rfl rfl ?_
        refine ab_iconst (pc2 := 278) (v := 1) dL_law_277 rfl ab_k_iconst_1 ?_
        refine ab_iadd (pc2 := 279) dL_law_278 rfl ?_
        obtain ⟨b39, hf⟩ := ab_guard hf
        refine ab_sld (pc2 := 280) rfl (ab_in_vp b39) dL_law_279 rfl ?_
        refine ab_topI (v := xs (i4 + (1 : Int32)).toNatClampNeg) rfl ?_
        obtain ⟨q40, hq40, hf⟩ := ab_bind hf
        obtain ⟨w41, ew41, hf⟩ := ab_bind hf
        refine ab_callV (pc2 := 283) (st := [_]) hq40 (T_i2 q40 hq40) (by decide) (m_X12_state (d := (d + 56)) (T_i2 q40 hq40) ew41) mf_X12_state tw_367 tw_366 ts_X12_state (Or.inl (by decide +kernel)) dL_law_280 rfl (by omega) (by omega) (by omega) rfl (Nat.le_of_ble_eq_true rfl) (ab_kPi ?_)
        refine ab_icmp_eq (tgt := 1391) (pc2 := 286) dL_law_283 (by decide) rfl hf (fun c42 hf => ?_) (fun c42 hf => ?_)
        · refine ab_iinc (pc2 := 1394) (v := _ + 6) (lo2 := [some (.float 0), some (va_rf _), some (va_rf _), some (va_rf _), some (.int _), none, none, none]) dL_law_1391 rfl rfl rfl (Nat.le_of_ble_eq_true rfl) (ab_st1_rf (j := 3) rfl rfl) ?_
          refine ab_goto (tgt := 23) dL_law_1394 (by decide) ?_
          exact ab_weak (ih _ _ _ _ _ _ _ (by omega) (by omega) T_i1 T_i2 T_i3 hf) (ab_leS (ab_leS (ab_leS (ab_leS (ab_leS (ab_leN (ab_leN (ab_leN ab_le0))))))))
        · refine ab_iconst (pc2 := 287) (v := 0) dL_law_286 rfl ab_k_iconst_0 ?_
          cases Option.some.inj hf
          exact ab_retI dL_law_287 (Or.inr ⟨rfl, (Or.inl rfl)⟩) (by omega) (by omega) ⟨rfl, rfl, (Or.inl rfl)⟩
      rcases ab_cas hf with ⟨s43, hf⟩ | ⟨s43, hf⟩
      · refine ab_tswK (tgt := 288) (off := 248) dL_law_40 s43 (by decide) (by decide) (by decide +kernel) (by decide) ?_
        refine ab_aload_n (x := _) (pc2 := 289) dL_law_288 rfl rfl ?_
        obtain ⟨q44, hq44, hf⟩ := ab_bind hf
        obtain ⟨w45, ew45, hf⟩ := ab_bind hf
        refine ab_callV (pc2 := 292) (st := []) hq44 (T_i1 q44 hq44) (by decide) (m_X11_rise (d := (d + 57)) (T_i1 q44 hq44) ew45) mf_X11_rise tw_369 tw_368 ts_X11_rise (Or.inl (by decide +kernel)) dL_law_289 rfl (by omega) (by omega) (by omega) rfl (Nat.le_of_ble_eq_true rfl) (ab_kPi ?_)
        refine ab_aload_n (x := _) (pc2 := 293) dL_law_292 rfl rfl ?_
        obtain ⟨q46, hq46, hf⟩ := ab_bind hf
        obtain ⟨w47, ew47, hf⟩ := ab_bind hf
        refine ab_callV (pc2 := 296) (st := [_]) hq46 (T_i2 q46 hq46) (by decide) (m_X12_rise (d := (d + 57)) (T_i2 q46 hq46) ew47) mf_X12_rise tw_371 tw_370 ts_X12_rise (Or.inl (by decide +kernel)) dL_law_293 rfl (by omega) (by omega) (by omega) rfl (Nat.le_of_ble_eq_true rfl) (ab_kPi ?_)
        refine ab_icmp_eq (tgt := 1391) (pc2 := 299) dL_law_296 (by decide) rfl hf (fun c48 hf => ?_) (fun c48 hf => ?_)
        · refine ab_iinc (pc2 := 1394) (v := _ + 6) (lo2 := [some (.float 0), some (va_rf _), some (va_rf _), some (va_rf _), some (.int _), none, none, none]) dL_law_1391 rfl rfl rfl (Nat.le_of_ble_eq_true rfl) (ab_st1_rf (j := 3) rfl rfl) ?_
          refine ab_goto (tgt := 23) dL_law_1394 (by decide) ?_
          exact ab_weak (ih _ _ _ _ _ _ _ (by omega) (by omega) T_i1 T_i2 T_i3 hf) (ab_leS (ab_leS (ab_leS (ab_leS (ab_leS (ab_leN (ab_leN (ab_leN ab_le0))))))))
        · refine ab_iconst (pc2 := 300) (v := 0) dL_law_299 rfl ab_k_iconst_0 ?_
          cases Option.some.inj hf
          exact ab_retI dL_law_300 (Or.inr ⟨rfl, (Or.inl rfl)⟩) (by omega) (by omega) ⟨rfl, rfl, (Or.inl rfl)⟩
      rcases ab_cas hf with ⟨s49, hf⟩ | ⟨s49, hf⟩
      · refine ab_tswK (tgt := 301) (off := 261) dL_law_40 s49 (by decide) (by decide) (by decide +kernel) (by decide) ?_
        refine ab_aload_n (x := _) (pc2 := 302) dL_law_301 rfl rfl ?_
        refine ab_aload_nS (pc2 := 303) dL_law_302 rfl rfl ?_
        refine ab_iload (pc2 := 305) dL_law_303 rfl rfl ?_
        refine ab_iconst (pc2 := 306) (v := 1) dL_law_305 rfl ab_k_iconst_1 ?_
        refine ab_iadd (pc2 := 307) dL_law_306 rfl ?_
        obtain ⟨b50, hf⟩ := ab_guard hf
        refine ab_sld (pc2 := 308) rfl (ab_in_vp b50) dL_law_307 rfl ?_
        refine ab_topI (v := xs (i4 + (1 : Int32)).toNatClampNeg) rfl ?_
        refine ab_aload_nS (pc2 := 309) dL_law_308 rfl rfl ?_
        refine ab_iload (pc2 := 311) dL_law_309 rfl rfl ?_
        refine ab_iconst (pc2 := 312) (v := 2) dL_law_311 rfl ab_k_iconst_2 ?_
        refine ab_iadd (pc2 := 313) dL_law_312 rfl ?_
        obtain ⟨b51, hf⟩ := ab_guard hf
        refine ab_sld (pc2 := 314) rfl (ab_in_vp b51) dL_law_313 rfl ?_
        refine ab_topI (v := xs (i4 + (2 : Int32)).toNatClampNeg) rfl ?_
        obtain ⟨q52, hq52, hf⟩ := ab_bind hf
        obtain ⟨w53, ew53, hf⟩ := ab_bind hf
        refine ab_callV (pc2 := 317) (st := []) hq52 (T_i1 q52 hq52) (by decide) (m_X11_set (d := (d + 56)) (T_i1 q52 hq52) ew53) mf_X11_set tw_373 tw_372 ts_X11_set (Or.inl (by decide +kernel)) dL_law_314 rfl (by omega) (by omega) (by omega) rfl (Nat.le_of_ble_eq_true rfl) (ab_kPi ?_)
        refine ab_aload_n (x := _) (pc2 := 318) dL_law_317 rfl rfl ?_
        refine ab_aload_nS (pc2 := 319) dL_law_318 rfl rfl ?_
        refine ab_iload (pc2 := 321) dL_law_319 rfl rfl ?_
        refine ab_iconst (pc2 := 322) (v := 1) dL_law_321 rfl ab_k_iconst_1 ?_
        refine ab_iadd (pc2 := 323) dL_law_322 rfl ?_
        obtain ⟨b54, hf⟩ := ab_guard hf
        refine ab_sld (pc2 := 324) rfl (ab_in_vp b54) dL_law_323 rfl ?_
        refine ab_topI (v := xs (i4 + (1 : Int32)).toNatClampNeg) rfl ?_
        refine ab_aload_nS (pc2 := 325) dL_law_324 rfl rfl ?_
        refine ab_iload (pc2 := 327) dL_law_325 rfl rfl ?_
        refine ab_iconst (pc2 := 328) (v := 2) dL_law_327 rfl ab_k_iconst_2 ?_
        refine ab_iadd (pc2 := 329) dL_law_328 rfl ?_
        obtain ⟨b55, hf⟩ := ab_guard hf
        refine ab_sld (pc2 := 330) rfl (ab_in_vp b55) dL_law_329 rfl ?_
        refine ab_topI (v := xs (i4 + (2 : Int32)).toNatClampNeg) rfl ?_
        obtain ⟨q56, hq56, hf⟩ := ab_bind hf
        obtain ⟨w57, ew57, hf⟩ := ab_bind hf
        refine ab_callV (pc2 := 333) (st := [_]) hq56 (T_i2 q56 hq56) (by decide) (m_X12_set (d := (d + 56)) (T_i2 q56 hq56) ew57) mf_X12_set tw_375 tw_374 ts_X12_set (Or.inl (by decide +kernel)) dL_law_330 rfl (by omega) (by omega) (by omega) rfl (Nat.le_of_ble_eq_true rfl) (ab_kPi ?_)
        refine ab_icmp_eq (tgt := 1391) (pc2 := 336) dL_law_333 (by decide) rfl hf (fun c58 hf => ?_) (fun c58 hf => ?_)
        · refine ab_iinc (pc2 := 1394) (v := _ + 6) (lo2 := [some (.float 0), some (va_rf _), some (va_rf _), some (va_rf _), some (.int _), none, none, none]) dL_law_1391 rfl rfl rfl (Nat.le_of_ble_eq_true rfl) (ab_st1_rf (j := 3) rfl rfl) ?_
          refine ab_goto (tgt := 23) dL_law_1394 (by decide) ?_
          exact ab_weak (ih _ _ _ _ _ _ _ (by omega) (by omega) T_i1 T_i2 T_i3 hf) (ab_leS (ab_leS (ab_leS (ab_leS (ab_leS (ab_leN (ab_leN (ab_leN ab_le0))))))))
        · refine ab_iconst (pc2 := 337) (v := 0) dL_law_336 rfl ab_k_iconst_0 ?_
          cases Option.some.inj hf
          exact ab_retI dL_law_337 (Or.inr ⟨rfl, (Or.inl rfl)⟩) (by omega) (by omega) ⟨rfl, rfl, (Or.inl rfl)⟩
      rcases ab_cas hf with ⟨s59, hf⟩ | ⟨s59, hf⟩
      · refine ab_tswK (tgt := 338) (off := 298) dL_law_40 s59 (by decide) (by decide) (by decide +kernel) (by decide) ?_
        refine ab_aload_n (x := _) (pc2 := 339) dL_law_338 rfl rfl ?_
        refine ab_aload_nS (pc2 := 340) dL_law_339 rfl rfl ?_
        refine ab_iload (pc2 := 342) dL_law_340 rfl rfl ?_
        refine ab_iconst (pc2 := 343) (v := 1) dL_law_342 rfl ab_k_iconst_1 ?_
        refine ab_iadd (pc2 := 344) dL_law_343 rfl ?_
        obtain ⟨b60, hf⟩ := ab_guard hf
        refine ab_sld (pc2 := 345) rfl (ab_in_vp b60) dL_law_344 rfl ?_
        refine ab_topI (v := xs (i4 + (1 : Int32)).toNatClampNeg) rfl ?_
        obtain ⟨q61, hq61, hf⟩ := ab_bind hf
        obtain ⟨w62, ew62, hf⟩ := ab_bind hf
        refine ab_callV (pc2 := 348) (st := []) hq61 (T_i1 q61 hq61) (by decide) (m_X11_may (d := (d + 55)) (T_i1 q61 hq61) ew62) mf_X11_may tw_377 tw_376 ts_X11_may (Or.inl (by decide +kernel)) dL_law_345 rfl (by omega) (by omega) (by omega) rfl (Nat.le_of_ble_eq_true rfl) (ab_kPi ?_)
        refine ab_aload_n (x := _) (pc2 := 349) dL_law_348 rfl rfl ?_
        refine ab_aload_nS (pc2 := 350) dL_law_349 rfl rfl ?_
        refine ab_iload (pc2 := 352) dL_law_350 rfl rfl ?_
        refine ab_iconst (pc2 := 353) (v := 1) dL_law_352 rfl ab_k_iconst_1 ?_
        refine ab_iadd (pc2 := 354) dL_law_353 rfl ?_
        obtain ⟨b63, hf⟩ := ab_guard hf
        refine ab_sld (pc2 := 355) rfl (ab_in_vp b63) dL_law_354 rfl ?_
        refine ab_topI (v := xs (i4 + (1 : Int32)).toNatClampNeg) rfl ?_
        obtain ⟨q64, hq64, hf⟩ := ab_bind hf
        obtain ⟨w65, ew65, hf⟩ := ab_bind hf
        refine ab_callV (pc2 := 358) (st := [_]) hq64 (T_i2 q64 hq64) (by decide) (m_X12_may (d := (d + 54)) (T_i2 q64 hq64) ew65) mf_X12_may tw_379 tw_378 ts_X12_may (Or.inl (by decide +kernel)) dL_law_355 rfl (by omega) (by omega) (by omega) rfl (Nat.le_of_ble_eq_true rfl) (ab_kPi ?_)
        refine ab_icmp_eq (tgt := 1391) (pc2 := 361) dL_law_358 (by decide) rfl hf (fun c66 hf => ?_) (fun c66 hf => ?_)
        · refine ab_iinc (pc2 := 1394) (v := _ + 6) (lo2 := [some (.float 0), some (va_rf _), some (va_rf _), some (va_rf _), some (.int _), none, none, none]) dL_law_1391 rfl rfl rfl (Nat.le_of_ble_eq_true rfl) (ab_st1_rf (j := 3) rfl rfl) ?_
          refine ab_goto (tgt := 23) dL_law_1394 (by decide) ?_
          exact ab_weak (ih _ _ _ _ _ _ _ (by omega) (by omega) T_i1 T_i2 T_i3 hf) (ab_leS (ab_leS (ab_leS (ab_leS (ab_leS (ab_leN (ab_leN (ab_leN ab_le0))))))))
        · refine ab_iconst (pc2 := 362) (v := 0) dL_law_361 rfl ab_k_iconst_0 ?_
          cases Option.some.inj hf
          exact ab_retI dL_law_362 (Or.inr ⟨rfl, (Or.inl rfl)⟩) (by omega) (by omega) ⟨rfl, rfl, (Or.inl rfl)⟩
      rcases ab_cas hf with ⟨s67, hf⟩ | ⟨s67, hf⟩
      · refine ab_tswK (tgt := 363) (off := 323) dL_law_40 s67 (by decide) (by decide) (by decide +kernel) (by decide) ?_
        refine ab_aload_n (x := _) (pc2 := 364) dL_law_363 rfl rfl ?_
        refine ab_aload_nS (pc2 := 365) dL_law_364 rfl rfl ?_
        refine ab_iload (pc2 := 367) dL_law_365 rfl rfl ?_
        refine ab_iconst (pc2 := 368) (v := 1) dL_law_367 rfl ab_k_iconst_1 ?_
        refine ab_iadd (pc2 := 369) dL_law_368 rfl ?_
        obtain ⟨b68, hf⟩ := ab_guard hf
        refine ab_sld (pc2 := 370) rfl (ab_in_vp b68) dL_law_369 rfl ?_
        refine ab_topI (v := xs (i4 + (1 : Int32)).toNatClampNeg) rfl ?_
        refine ab_aload_nS (pc2 := 371) dL_law_370 rfl rfl ?_
        refine ab_iload (pc2 := 373) dL_law_371 rfl rfl ?_
        refine ab_iconst (pc2 := 374) (v := 2) dL_law_373 rfl ab_k_iconst_2 ?_
        refine ab_iadd (pc2 := 375) dL_law_374 rfl ?_
        obtain ⟨b69, hf⟩ := ab_guard hf
        refine ab_sld (pc2 := 376) rfl (ab_in_vp b69) dL_law_375 rfl ?_
        refine ab_topI (v := xs (i4 + (2 : Int32)).toNatClampNeg) rfl ?_
        obtain ⟨q70, hq70, hf⟩ := ab_bind hf
        obtain ⟨w71, ew71, hf⟩ := ab_bind hf
        refine ab_callV (pc2 := 379) (st := []) hq70 (T_i1 q70 hq70) (by decide) (m_X11_pair (d := (d + 51)) (T_i1 q70 hq70) ew71) mf_X11_pair tw_381 tw_380 ts_X11_pair (Or.inl (by decide +kernel)) dL_law_376 rfl (by omega) (by omega) (by omega) rfl (Nat.le_of_ble_eq_true rfl) (ab_kPi ?_)
        refine ab_aload_n (x := _) (pc2 := 380) dL_law_379 rfl rfl ?_
        refine ab_aload_nS (pc2 := 381) dL_law_380 rfl rfl ?_
        refine ab_iload (pc2 := 383) dL_law_381 rfl rfl ?_
        refine ab_iconst (pc2 := 384) (v := 1) dL_law_383 rfl ab_k_iconst_1 ?_
        refine ab_iadd (pc2 := 385) dL_law_384 rfl ?_
        obtain ⟨b72, hf⟩ := ab_guard hf
        refine ab_sld (pc2 := 386) rfl (ab_in_vp b72) dL_law_385 rfl ?_
        refine ab_topI (v := xs (i4 + (1 : Int32)).toNatClampNeg) rfl ?_
        refine ab_aload_nS (pc2 := 387) dL_law_386 rfl rfl ?_
        refine ab_iload (pc2 := 389) dL_law_387 rfl rfl ?_
        refine ab_iconst (pc2 := 390) (v := 2) dL_law_389 rfl ab_k_iconst_2 ?_
        refine ab_iadd (pc2 := 391) dL_law_390 rfl ?_
        obtain ⟨b73, hf⟩ := ab_guard hf
        refine ab_sld (pc2 := 392) rfl (ab_in_vp b73) dL_law_391 rfl ?_
        refine ab_topI (v := xs (i4 + (2 : Int32)).toNatClampNeg) rfl ?_
        obtain ⟨q74, hq74, hf⟩ := ab_bind hf
        obtain ⟨w75, ew75, hf⟩ := ab_bind hf
        refine ab_callV (pc2 := 395) (st := [_]) hq74 (T_i2 q74 hq74) (by decide) (m_X12_pair (d := (d + 50)) (T_i2 q74 hq74) ew75) mf_X12_pair tw_383 tw_382 ts_X12_pair (Or.inl (by decide +kernel)) dL_law_392 rfl (by omega) (by omega) (by omega) rfl (Nat.le_of_ble_eq_true rfl) (ab_kPi ?_)
        refine ab_icmp_eq (tgt := 1391) (pc2 := 398) dL_law_395 (by decide) rfl hf (fun c76 hf => ?_) (fun c76 hf => ?_)
        · refine ab_iinc (pc2 := 1394) (v := _ + 6) (lo2 := [some (.float 0), some (va_rf _), some (va_rf _), some (va_rf _), some (.int _), none, none, none]) dL_law_1391 rfl rfl rfl (Nat.le_of_ble_eq_true rfl) (ab_st1_rf (j := 3) rfl rfl) ?_
          refine ab_goto (tgt := 23) dL_law_1394 (by decide) ?_
          exact ab_weak (ih _ _ _ _ _ _ _ (by omega) (by omega) T_i1 T_i2 T_i3 hf) (ab_leS (ab_leS (ab_leS (ab_leS (ab_leS (ab_leN (ab_leN (ab_leN ab_le0))))))))
        · refine ab_iconst (pc2 := 399) (v := 0) dL_law_398 rfl ab_k_iconst_0 ?_
          cases Option.some.inj hf
          exact ab_retI dL_law_399 (Or.inr ⟨rfl, (Or.inl rfl)⟩) (by omega) (by omega) ⟨rfl, rfl, (Or.inl rfl)⟩
      rcases ab_cas hf with ⟨s77, hf⟩ | ⟨s77, hf⟩
      · refine ab_tswK (tgt := 400) (off := 360) dL_law_40 s77 (by decide) (by decide) (by decide +kernel) (by decide) ?_
        refine ab_aload_n (x := _) (pc2 := 401) dL_law_400 rfl rfl ?_
        refine ab_aload_nS (pc2 := 402) dL_law_401 rfl rfl ?_
        refine ab_iload (pc2 := 404) dL_law_402 rfl rfl ?_
        refine ab_iconst (pc2 := 405) (v := 1) dL_law_404 rfl ab_k_iconst_1 ?_
        refine ab_iadd (pc2 := 406) dL_law_405 rfl ?_
        obtain ⟨b78, hf⟩ := ab_guard hf
        refine ab_sld (pc2 := 407) rfl (ab_in_vp b78) dL_law_406 rfl ?_
        refine ab_topI (v := xs (i4 + (1 : Int32)).toNatClampNeg) rfl ?_
        obtain ⟨q79, hq79, hf⟩ := ab_bind hf
        obtain ⟨w80, ew80, hf⟩ := ab_bind hf
        refine ab_callV (pc2 := 410) (st := []) hq79 (T_i1 q79 hq79) (by decide) (m_X11_even (d := (d + 53)) (T_i1 q79 hq79) ew80) mf_X11_even tw_385 tw_384 ts_X11_even (Or.inl (by decide +kernel)) dL_law_407 rfl (by omega) (by omega) (by omega) rfl (Nat.le_of_ble_eq_true rfl) (ab_kPi ?_)
        refine ab_aload_n (x := _) (pc2 := 411) dL_law_410 rfl rfl ?_
        refine ab_aload_nS (pc2 := 412) dL_law_411 rfl rfl ?_
        refine ab_iload (pc2 := 414) dL_law_412 rfl rfl ?_
        refine ab_iconst (pc2 := 415) (v := 1) dL_law_414 rfl ab_k_iconst_1 ?_
        refine ab_iadd (pc2 := 416) dL_law_415 rfl ?_
        obtain ⟨b81, hf⟩ := ab_guard hf
        refine ab_sld (pc2 := 417) rfl (ab_in_vp b81) dL_law_416 rfl ?_
        refine ab_topI (v := xs (i4 + (1 : Int32)).toNatClampNeg) rfl ?_
        obtain ⟨q82, hq82, hf⟩ := ab_bind hf
        obtain ⟨w83, ew83, hf⟩ := ab_bind hf
        refine ab_callV (pc2 := 420) (st := [_]) hq82 (T_i2 q82 hq82) (by decide) (m_X12_even (d := (d + 53)) (T_i2 q82 hq82) ew83) mf_X12_even tw_387 tw_386 ts_X12_even (Or.inl (by decide +kernel)) dL_law_417 rfl (by omega) (by omega) (by omega) rfl (Nat.le_of_ble_eq_true rfl) (ab_kPi ?_)
        refine ab_icmp_eq (tgt := 1391) (pc2 := 423) dL_law_420 (by decide) rfl hf (fun c84 hf => ?_) (fun c84 hf => ?_)
        · refine ab_iinc (pc2 := 1394) (v := _ + 6) (lo2 := [some (.float 0), some (va_rf _), some (va_rf _), some (va_rf _), some (.int _), none, none, none]) dL_law_1391 rfl rfl rfl (Nat.le_of_ble_eq_true rfl) (ab_st1_rf (j := 3) rfl rfl) ?_
          refine ab_goto (tgt := 23) dL_law_1394 (by decide) ?_
          exact ab_weak (ih _ _ _ _ _ _ _ (by omega) (by omega) T_i1 T_i2 T_i3 hf) (ab_leS (ab_leS (ab_leS (ab_leS (ab_leS (ab_leN (ab_leN (ab_leN ab_le0))))))))
        · refine ab_iconst (pc2 := 424) (v := 0) dL_law_423 rfl ab_k_iconst_0 ?_
          cases Option.some.inj hf
          exact ab_retI dL_law_424 (Or.inr ⟨rfl, (Or.inl rfl)⟩) (by omega) (by omega) ⟨rfl, rfl, (Or.inl rfl)⟩
      rcases ab_cas hf with ⟨s85, hf⟩ | ⟨s85, hf⟩
      · refine ab_tswK (tgt := 425) (off := 385) dL_law_40 s85 (by decide) (by decide) (by decide +kernel) (by decide) ?_
        refine ab_aload_n (x := _) (pc2 := 426) dL_law_425 rfl rfl ?_
        refine ab_aload_nS (pc2 := 427) dL_law_426 rfl rfl ?_
        refine ab_iload (pc2 := 429) dL_law_427 rfl rfl ?_
        refine ab_iconst (pc2 := 430) (v := 1) dL_law_429 rfl ab_k_iconst_1 ?_
        refine ab_iadd (pc2 := 431) dL_law_430 rfl ?_
        obtain ⟨b86, hf⟩ := ab_guard hf
        refine ab_sld (pc2 := 432) rfl (ab_in_vp b86) dL_law_431 rfl ?_
        refine ab_topI (v := xs (i4 + (1 : Int32)).toNatClampNeg) rfl ?_
        refine ab_aload_nS (pc2 := 433) dL_law_432 rfl rfl ?_
        refine ab_iload (pc2 := 435) dL_law_433 rfl rfl ?_
        refine ab_iconst (pc2 := 436) (v := 2) dL_law_435 rfl ab_k_iconst_2 ?_
        refine ab_iadd (pc2 := 437) dL_law_436 rfl ?_
        obtain ⟨b87, hf⟩ := ab_guard hf
        refine ab_sld (pc2 := 438) rfl (ab_in_vp b87) dL_law_437 rfl ?_
        refine ab_topI (v := xs (i4 + (2 : Int32)).toNatClampNeg) rfl ?_
        refine ab_aload_nS (pc2 := 439) dL_law_438 rfl rfl ?_
        refine ab_iload (pc2 := 441) dL_law_439 rfl rfl ?_
        refine ab_iconst (pc2 := 442) (v := 3) dL_law_441 rfl ab_k_iconst_3 ?_
        refine ab_iadd (pc2 := 443) dL_law_442 rfl ?_
        obtain ⟨b88, hf⟩ := ab_guard hf
        refine ab_sld (pc2 := 444) rfl (ab_in_vp b88) dL_law_443 rfl ?_
        refine ab_topI (v := xs (i4 + (3 : Int32)).toNatClampNeg) rfl ?_
        obtain ⟨q89, hq89, hf⟩ := ab_bind hf
        obtain ⟨w90, ew90, hf⟩ := ab_bind hf
        refine ab_callV (pc2 := 447) (st := []) hq89 (T_i1 q89 hq89) (by decide) (m_X11_lasts (d := (d + 51)) (T_i1 q89 hq89) ew90) mf_X11_lasts tw_389 tw_388 ts_X11_lasts (Or.inl (by decide +kernel)) dL_law_444 rfl (by omega) (by omega) (by omega) rfl (Nat.le_of_ble_eq_true rfl) (ab_kPi ?_)
        refine ab_aload_n (x := _) (pc2 := 448) dL_law_447 rfl rfl ?_
        refine ab_aload_nS (pc2 := 449) dL_law_448 rfl rfl ?_
        refine ab_iload (pc2 := 451) dL_law_449 rfl rfl ?_
        refine ab_iconst (pc2 := 452) (v := 1) dL_law_451 rfl ab_k_iconst_1 ?_
        refine ab_iadd (pc2 := 453) dL_law_452 rfl ?_
        obtain ⟨b91, hf⟩ := ab_guard hf
        refine ab_sld (pc2 := 454) rfl (ab_in_vp b91) dL_law_453 rfl ?_
        refine ab_topI (v := xs (i4 + (1 : Int32)).toNatClampNeg) rfl ?_
        refine ab_aload_nS (pc2 := 455) dL_law_454 rfl rfl ?_
        refine ab_iload (pc2 := 457) dL_law_455 rfl rfl ?_
        refine ab_iconst (pc2 := 458) (v := 2) dL_law_457 rfl ab_k_iconst_2 ?_
        refine ab_iadd (pc2 := 459) dL_law_458 rfl ?_
        obtain ⟨b92, hf⟩ := ab_guard hf
        refine ab_sld (pc2 := 460) rfl (ab_in_vp b92) dL_law_459 rfl ?_
        refine ab_topI (v := xs (i4 + (2 : Int32)).toNatClampNeg) rfl ?_
        refine ab_aload_nS (pc2 := 461) dL_law_460 rfl rfl ?_
        refine ab_iload (pc2 := 463) dL_law_461 rfl rfl ?_
        refine ab_iconst (pc2 := 464) (v := 3) dL_law_463 rfl ab_k_iconst_3 ?_
        refine ab_iadd (pc2 := 465) dL_law_464 rfl ?_
        obtain ⟨b93, hf⟩ := ab_guard hf
        refine ab_sld (pc2 := 466) rfl (ab_in_vp b93) dL_law_465 rfl ?_
        refine ab_topI (v := xs (i4 + (3 : Int32)).toNatClampNeg) rfl ?_
        obtain ⟨q94, hq94, hf⟩ := ab_bind hf
        obtain ⟨w95, ew95, hf⟩ := ab_bind hf
        refine ab_callV (pc2 := 469) (st := [_]) hq94 (T_i2 q94 hq94) (by decide) (m_X12_lasts (d := (d + 50)) (T_i2 q94 hq94) ew95) mf_X12_lasts tw_391 tw_390 ts_X12_lasts (Or.inl (by decide +kernel)) dL_law_466 rfl (by omega) (by omega) (by omega) rfl (Nat.le_of_ble_eq_true rfl) (ab_kPi ?_)
        refine ab_icmp_eq (tgt := 1391) (pc2 := 472) dL_law_469 (by decide) rfl hf (fun c96 hf => ?_) (fun c96 hf => ?_)
        · refine ab_iinc (pc2 := 1394) (v := _ + 6) (lo2 := [some (.float 0), some (va_rf _), some (va_rf _), some (va_rf _), some (.int _), none, none, none]) dL_law_1391 rfl rfl rfl (Nat.le_of_ble_eq_true rfl) (ab_st1_rf (j := 3) rfl rfl) ?_
          refine ab_goto (tgt := 23) dL_law_1394 (by decide) ?_
          exact ab_weak (ih _ _ _ _ _ _ _ (by omega) (by omega) T_i1 T_i2 T_i3 hf) (ab_leS (ab_leS (ab_leS (ab_leS (ab_leS (ab_leN (ab_leN (ab_leN ab_le0))))))))
        · refine ab_iconst (pc2 := 473) (v := 0) dL_law_472 rfl ab_k_iconst_0 ?_
          cases Option.some.inj hf
          exact ab_retI dL_law_473 (Or.inr ⟨rfl, (Or.inl rfl)⟩) (by omega) (by omega) ⟨rfl, rfl, (Or.inl rfl)⟩
      rcases ab_cas hf with ⟨s97, hf⟩ | ⟨s97, hf⟩
      · refine ab_tswK (tgt := 474) (off := 434) dL_law_40 s97 (by decide) (by decide) (by decide +kernel) (by decide) ?_
        refine ab_aload_n (x := _) (pc2 := 475) dL_law_474 rfl rfl ?_
        refine ab_aload_nS (pc2 := 476) dL_law_475 rfl rfl ?_
        refine ab_iload (pc2 := 478) dL_law_476 rfl rfl ?_
        refine ab_iconst (pc2 := 479) (v := 1) dL_law_478 rfl ab_k_iconst_1 ?_
        refine ab_iadd (pc2 := 480) dL_law_479 rfl ?_
        obtain ⟨b98, hf⟩ := ab_guard hf
        refine ab_sld (pc2 := 481) rfl (ab_in_vp b98) dL_law_480 rfl ?_
        refine ab_topI (v := xs (i4 + (1 : Int32)).toNatClampNeg) rfl ?_
        refine ab_aload_nS (pc2 := 482) dL_law_481 rfl rfl ?_
        refine ab_iload (pc2 := 484) dL_law_482 rfl rfl ?_
        refine ab_iconst (pc2 := 485) (v := 2) dL_law_484 rfl ab_k_iconst_2 ?_
        refine ab_iadd (pc2 := 486) dL_law_485 rfl ?_
        obtain ⟨b99, hf⟩ := ab_guard hf
        refine ab_sld (pc2 := 487) rfl (ab_in_vp b99) dL_law_486 rfl ?_
        refine ab_topI (v := xs (i4 + (2 : Int32)).toNatClampNeg) rfl ?_
        refine ab_aload_nS (pc2 := 488) dL_law_487 rfl rfl ?_
        refine ab_iload (pc2 := 490) dL_law_488 rfl rfl ?_
        refine ab_iconst (pc2 := 491) (v := 3) dL_law_490 rfl ab_k_iconst_3 ?_
        refine ab_iadd (pc2 := 492) dL_law_491 rfl ?_
        obtain ⟨b100, hf⟩ := ab_guard hf
        refine ab_sld (pc2 := 493) rfl (ab_in_vp b100) dL_law_492 rfl ?_
        refine ab_topI (v := xs (i4 + (3 : Int32)).toNatClampNeg) rfl ?_
        obtain ⟨q101, hq101, hf⟩ := ab_bind hf
        obtain ⟨w102, ew102, hf⟩ := ab_bind hf
        refine ab_callV (pc2 := 496) (st := []) hq101 (T_i1 q101 hq101) (by decide) (m_X11_why (d := (d + 51)) (T_i1 q101 hq101) ew102) mf_X11_why tw_393 tw_392 ts_X11_why (Or.inl (by decide +kernel)) dL_law_493 rfl (by omega) (by omega) (by omega) rfl (Nat.le_of_ble_eq_true rfl) (ab_kPi ?_)
        refine ab_aload_n (x := _) (pc2 := 497) dL_law_496 rfl rfl ?_
        refine ab_aload_nS (pc2 := 498) dL_law_497 rfl rfl ?_
        refine ab_iload (pc2 := 500) dL_law_498 rfl rfl ?_
        refine ab_iconst (pc2 := 501) (v := 1) dL_law_500 rfl ab_k_iconst_1 ?_
        refine ab_iadd (pc2 := 502) dL_law_501 rfl ?_
        obtain ⟨b103, hf⟩ := ab_guard hf
        refine ab_sld (pc2 := 503) rfl (ab_in_vp b103) dL_law_502 rfl ?_
        refine ab_topI (v := xs (i4 + (1 : Int32)).toNatClampNeg) rfl ?_
        refine ab_aload_nS (pc2 := 504) dL_law_503 rfl rfl ?_
        refine ab_iload (pc2 := 506) dL_law_504 rfl rfl ?_
        refine ab_iconst (pc2 := 507) (v := 2) dL_law_506 rfl ab_k_iconst_2 ?_
        refine ab_iadd (pc2 := 508) dL_law_507 rfl ?_
        obtain ⟨b104, hf⟩ := ab_guard hf
        refine ab_sld (pc2 := 509) rfl (ab_in_vp b104) dL_law_508 rfl ?_
        refine ab_topI (v := xs (i4 + (2 : Int32)).toNatClampNeg) rfl ?_
        refine ab_aload_nS (pc2 := 510) dL_law_509 rfl rfl ?_
        refine ab_iload (pc2 := 512) dL_law_510 rfl rfl ?_
        refine ab_iconst (pc2 := 513) (v := 3) dL_law_512 rfl ab_k_iconst_3 ?_
        refine ab_iadd (pc2 := 514) dL_law_513 rfl ?_
        obtain ⟨b105, hf⟩ := ab_guard hf
        refine ab_sld (pc2 := 515) rfl (ab_in_vp b105) dL_law_514 rfl ?_
        refine ab_topI (v := xs (i4 + (3 : Int32)).toNatClampNeg) rfl ?_
        obtain ⟨q106, hq106, hf⟩ := ab_bind hf
        obtain ⟨w107, ew107, hf⟩ := ab_bind hf
        refine ab_callV (pc2 := 518) (st := [_]) hq106 (T_i2 q106 hq106) (by decide) (m_X12_why (d := (d + 50)) (T_i2 q106 hq106) ew107) mf_X12_why tw_395 tw_394 ts_X12_why (Or.inl (by decide +kernel)) dL_law_515 rfl (by omega) (by omega) (by omega) rfl (Nat.le_of_ble_eq_true rfl) (ab_kPi ?_)
        refine ab_icmp_eq (tgt := 1391) (pc2 := 521) dL_law_518 (by decide) rfl hf (fun c108 hf => ?_) (fun c108 hf => ?_)
        · refine ab_iinc (pc2 := 1394) (v := _ + 6) (lo2 := [some (.float 0), some (va_rf _), some (va_rf _), some (va_rf _), some (.int _), none, none, none]) dL_law_1391 rfl rfl rfl (Nat.le_of_ble_eq_true rfl) (ab_st1_rf (j := 3) rfl rfl) ?_
          refine ab_goto (tgt := 23) dL_law_1394 (by decide) ?_
          exact ab_weak (ih _ _ _ _ _ _ _ (by omega) (by omega) T_i1 T_i2 T_i3 hf) (ab_leS (ab_leS (ab_leS (ab_leS (ab_leS (ab_leN (ab_leN (ab_leN ab_le0))))))))
        · refine ab_iconst (pc2 := 522) (v := 0) dL_law_521 rfl ab_k_iconst_0 ?_
          cases Option.some.inj hf
          exact ab_retI dL_law_522 (Or.inr ⟨rfl, (Or.inl rfl)⟩) (by omega) (by omega) ⟨rfl, rfl, (Or.inl rfl)⟩
      rcases ab_cas hf with ⟨s109, hf⟩ | ⟨s109, hf⟩
      · refine ab_tswK (tgt := 523) (off := 483) dL_law_40 s109 (by decide) (by decide) (by decide +kernel) (by decide) ?_
        refine ab_aload_n (x := _) (pc2 := 524) dL_law_523 rfl rfl ?_
        refine ab_aload_nS (pc2 := 525) dL_law_524 rfl rfl ?_
        refine ab_iload (pc2 := 527) dL_law_525 rfl rfl ?_
        refine ab_iconst (pc2 := 528) (v := 1) dL_law_527 rfl ab_k_iconst_1 ?_
        refine ab_iadd (pc2 := 529) dL_law_528 rfl ?_
        obtain ⟨b110, hf⟩ := ab_guard hf
        refine ab_sld (pc2 := 530) rfl (ab_in_vp b110) dL_law_529 rfl ?_
        refine ab_topI (v := xs (i4 + (1 : Int32)).toNatClampNeg) rfl ?_
        refine ab_aload_nS (pc2 := 531) dL_law_530 rfl rfl ?_
        refine ab_iload (pc2 := 533) dL_law_531 rfl rfl ?_
        refine ab_iconst (pc2 := 534) (v := 2) dL_law_533 rfl ab_k_iconst_2 ?_
        refine ab_iadd (pc2 := 535) dL_law_534 rfl ?_
        obtain ⟨b111, hf⟩ := ab_guard hf
        refine ab_sld (pc2 := 536) rfl (ab_in_vp b111) dL_law_535 rfl ?_
        refine ab_topI (v := xs (i4 + (2 : Int32)).toNatClampNeg) rfl ?_
        refine ab_aload_nS (pc2 := 537) dL_law_536 rfl rfl ?_
        refine ab_iload (pc2 := 539) dL_law_537 rfl rfl ?_
        refine ab_iconst (pc2 := 540) (v := 3) dL_law_539 rfl ab_k_iconst_3 ?_
        refine ab_iadd (pc2 := 541) dL_law_540 rfl ?_
        obtain ⟨b112, hf⟩ := ab_guard hf
        refine ab_sld (pc2 := 542) rfl (ab_in_vp b112) dL_law_541 rfl ?_
        refine ab_topI (v := xs (i4 + (3 : Int32)).toNatClampNeg) rfl ?_
        obtain ⟨q113, hq113, hf⟩ := ab_bind hf
        obtain ⟨w114, ew114, hf⟩ := ab_bind hf
        refine ab_callV (pc2 := 545) (st := []) hq113 (T_i1 q113 hq113) (by decide) (m_X11_behind (d := (d + 51)) (T_i1 q113 hq113) ew114) mf_X11_behind tw_397 tw_396 ts_X11_behind (Or.inl (by decide +kernel)) dL_law_542 rfl (by omega) (by omega) (by omega) rfl (Nat.le_of_ble_eq_true rfl) (ab_kPi ?_)
        refine ab_aload_n (x := _) (pc2 := 546) dL_law_545 rfl rfl ?_
        refine ab_aload_nS (pc2 := 547) dL_law_546 rfl rfl ?_
        refine ab_iload (pc2 := 549) dL_law_547 rfl rfl ?_
        refine ab_iconst (pc2 := 550) (v := 1) dL_law_549 rfl ab_k_iconst_1 ?_
        refine ab_iadd (pc2 := 551) dL_law_550 rfl ?_
        obtain ⟨b115, hf⟩ := ab_guard hf
        refine ab_sld (pc2 := 552) rfl (ab_in_vp b115) dL_law_551 rfl ?_
        refine ab_topI (v := xs (i4 + (1 : Int32)).toNatClampNeg) rfl ?_
        refine ab_aload_nS (pc2 := 553) dL_law_552 rfl rfl ?_
        refine ab_iload (pc2 := 555) dL_law_553 rfl rfl ?_
        refine ab_iconst (pc2 := 556) (v := 2) dL_law_555 rfl ab_k_iconst_2 ?_
        refine ab_iadd (pc2 := 557) dL_law_556 rfl ?_
        obtain ⟨b116, hf⟩ := ab_guard hf
        refine ab_sld (pc2 := 558) rfl (ab_in_vp b116) dL_law_557 rfl ?_
        refine ab_topI (v := xs (i4 + (2 : Int32)).toNatClampNeg) rfl ?_
        refine ab_aload_nS (pc2 := 559) dL_law_558 rfl rfl ?_
        refine ab_iload (pc2 := 561) dL_law_559 rfl rfl ?_
        refine ab_iconst (pc2 := 562) (v := 3) dL_law_561 rfl ab_k_iconst_3 ?_
        refine ab_iadd (pc2 := 563) dL_law_562 rfl ?_
        obtain ⟨b117, hf⟩ := ab_guard hf
        refine ab_sld (pc2 := 564) rfl (ab_in_vp b117) dL_law_563 rfl ?_
        refine ab_topI (v := xs (i4 + (3 : Int32)).toNatClampNeg) rfl ?_
        obtain ⟨q118, hq118, hf⟩ := ab_bind hf
        obtain ⟨w119, ew119, hf⟩ := ab_bind hf
        refine ab_callV (pc2 := 567) (st := [_]) hq118 (T_i2 q118 hq118) (by decide) (m_X12_behind (d := (d + 50)) (T_i2 q118 hq118) ew119) mf_X12_behind tw_399 tw_398 ts_X12_behind (Or.inl (by decide +kernel)) dL_law_564 rfl (by omega) (by omega) (by omega) rfl (Nat.le_of_ble_eq_true rfl) (ab_kPi ?_)
        refine ab_icmp_eq (tgt := 1391) (pc2 := 570) dL_law_567 (by decide) rfl hf (fun c120 hf => ?_) (fun c120 hf => ?_)
        · refine ab_iinc (pc2 := 1394) (v := _ + 6) (lo2 := [some (.float 0), some (va_rf _), some (va_rf _), some (va_rf _), some (.int _), none, none, none]) dL_law_1391 rfl rfl rfl (Nat.le_of_ble_eq_true rfl) (ab_st1_rf (j := 3) rfl rfl) ?_
          refine ab_goto (tgt := 23) dL_law_1394 (by decide) ?_
          exact ab_weak (ih _ _ _ _ _ _ _ (by omega) (by omega) T_i1 T_i2 T_i3 hf) (ab_leS (ab_leS (ab_leS (ab_leS (ab_leS (ab_leN (ab_leN (ab_leN ab_le0))))))))
        · refine ab_iconst (pc2 := 571) (v := 0) dL_law_570 rfl ab_k_iconst_0 ?_
          cases Option.some.inj hf
          exact ab_retI dL_law_571 (Or.inr ⟨rfl, (Or.inl rfl)⟩) (by omega) (by omega) ⟨rfl, rfl, (Or.inl rfl)⟩
      rcases ab_cas hf with ⟨s121, hf⟩ | ⟨s121, hf⟩
      · refine ab_tswK (tgt := 572) (off := 532) dL_law_40 s121 (by decide) (by decide) (by decide +kernel) (by decide) ?_
        refine ab_aload_n (x := _) (pc2 := 573) dL_law_572 rfl rfl ?_
        refine ab_aload_nS (pc2 := 574) dL_law_573 rfl rfl ?_
        refine ab_iload (pc2 := 576) dL_law_574 rfl rfl ?_
        refine ab_iconst (pc2 := 577) (v := 1) dL_law_576 rfl ab_k_iconst_1 ?_
        refine ab_iadd (pc2 := 578) dL_law_577 rfl ?_
        obtain ⟨b122, hf⟩ := ab_guard hf
        refine ab_sld (pc2 := 579) rfl (ab_in_vp b122) dL_law_578 rfl ?_
        refine ab_topI (v := xs (i4 + (1 : Int32)).toNatClampNeg) rfl ?_
        refine ab_aload_nS (pc2 := 580) dL_law_579 rfl rfl ?_
        refine ab_iload (pc2 := 582) dL_law_580 rfl rfl ?_
        refine ab_iconst (pc2 := 583) (v := 2) dL_law_582 rfl ab_k_iconst_2 ?_
        refine ab_iadd (pc2 := 584) dL_law_583 rfl ?_
        obtain ⟨b123, hf⟩ := ab_guard hf
        refine ab_sld (pc2 := 585) rfl (ab_in_vp b123) dL_law_584 rfl ?_
        refine ab_topI (v := xs (i4 + (2 : Int32)).toNatClampNeg) rfl ?_
        refine ab_aload_nS (pc2 := 586) dL_law_585 rfl rfl ?_
        refine ab_iload (pc2 := 588) dL_law_586 rfl rfl ?_
        refine ab_iconst (pc2 := 589) (v := 3) dL_law_588 rfl ab_k_iconst_3 ?_
        refine ab_iadd (pc2 := 590) dL_law_589 rfl ?_
        obtain ⟨b124, hf⟩ := ab_guard hf
        refine ab_sld (pc2 := 591) rfl (ab_in_vp b124) dL_law_590 rfl ?_
        refine ab_topI (v := xs (i4 + (3 : Int32)).toNatClampNeg) rfl ?_
        obtain ⟨q125, hq125, hf⟩ := ab_bind hf
        obtain ⟨w126, ew126, hf⟩ := ab_bind hf
        refine ab_callV (pc2 := 594) (st := []) hq125 (T_i1 q125 hq125) (by decide) (m_X11_least (d := (d + 51)) (T_i1 q125 hq125) ew126) mf_X11_least tw_401 tw_400 ts_X11_least (Or.inl (by decide +kernel)) dL_law_591 rfl (by omega) (by omega) (by omega) rfl (Nat.le_of_ble_eq_true rfl) (ab_kPi ?_)
        refine ab_aload_n (x := _) (pc2 := 595) dL_law_594 rfl rfl ?_
        refine ab_aload_nS (pc2 := 596) dL_law_595 rfl rfl ?_
        refine ab_iload (pc2 := 598) dL_law_596 rfl rfl ?_
        refine ab_iconst (pc2 := 599) (v := 1) dL_law_598 rfl ab_k_iconst_1 ?_
        refine ab_iadd (pc2 := 600) dL_law_599 rfl ?_
        obtain ⟨b127, hf⟩ := ab_guard hf
        refine ab_sld (pc2 := 601) rfl (ab_in_vp b127) dL_law_600 rfl ?_
        refine ab_topI (v := xs (i4 + (1 : Int32)).toNatClampNeg) rfl ?_
        refine ab_aload_nS (pc2 := 602) dL_law_601 rfl rfl ?_
        refine ab_iload (pc2 := 604) dL_law_602 rfl rfl ?_
        refine ab_iconst (pc2 := 605) (v := 2) dL_law_604 rfl ab_k_iconst_2 ?_
        refine ab_iadd (pc2 := 606) dL_law_605 rfl ?_
        obtain ⟨b128, hf⟩ := ab_guard hf
        refine ab_sld (pc2 := 607) rfl (ab_in_vp b128) dL_law_606 rfl ?_
        refine ab_topI (v := xs (i4 + (2 : Int32)).toNatClampNeg) rfl ?_
        refine ab_aload_nS (pc2 := 608) dL_law_607 rfl rfl ?_
        refine ab_iload (pc2 := 610) dL_law_608 rfl rfl ?_
        refine ab_iconst (pc2 := 611) (v := 3) dL_law_610 rfl ab_k_iconst_3 ?_
        refine ab_iadd (pc2 := 612) dL_law_611 rfl ?_
        obtain ⟨b129, hf⟩ := ab_guard hf
        refine ab_sld (pc2 := 613) rfl (ab_in_vp b129) dL_law_612 rfl ?_
        refine ab_topI (v := xs (i4 + (3 : Int32)).toNatClampNeg) rfl ?_
        obtain ⟨q130, hq130, hf⟩ := ab_bind hf
        obtain ⟨w131, ew131, hf⟩ := ab_bind hf
        refine ab_callV (pc2 := 616) (st := [_]) hq130 (T_i2 q130 hq130) (by decide) (m_X12_least (d := (d + 49)) (T_i2 q130 hq130) ew131) mf_X12_least tw_403 tw_402 ts_X12_least (Or.inl (by decide +kernel)) dL_law_613 rfl (by omega) (by omega) (by omega) rfl (Nat.le_of_ble_eq_true rfl) (ab_kPi ?_)
        refine ab_icmp_eq (tgt := 1391) (pc2 := 619) dL_law_616 (by decide) rfl hf (fun c132 hf => ?_) (fun c132 hf => ?_)
        · refine ab_iinc (pc2 := 1394) (v := _ + 6) (lo2 := [some (.float 0), some (va_rf _), some (va_rf _), some (va_rf _), some (.int _), none, none, none]) dL_law_1391 rfl rfl rfl (Nat.le_of_ble_eq_true rfl) (ab_st1_rf (j := 3) rfl rfl) ?_
          refine ab_goto (tgt := 23) dL_law_1394 (by decide) ?_
          exact ab_weak (ih _ _ _ _ _ _ _ (by omega) (by omega) T_i1 T_i2 T_i3 hf) (ab_leS (ab_leS (ab_leS (ab_leS (ab_leS (ab_leN (ab_leN (ab_leN ab_le0))))))))
        · refine ab_iconst (pc2 := 620) (v := 0) dL_law_619 rfl ab_k_iconst_0 ?_
          cases Option.some.inj hf
          exact ab_retI dL_law_620 (Or.inr ⟨rfl, (Or.inl rfl)⟩) (by omega) (by omega) ⟨rfl, rfl, (Or.inl rfl)⟩
      rcases ab_cas hf with ⟨s133, hf⟩ | ⟨s133, hf⟩
      · refine ab_tswK (tgt := 621) (off := 581) dL_law_40 s133 (by decide) (by decide) (by decide +kernel) (by decide) ?_
        refine ab_aload_n (x := _) (pc2 := 622) dL_law_621 rfl rfl ?_
        refine ab_aload_nS (pc2 := 623) dL_law_622 rfl rfl ?_
        refine ab_iload (pc2 := 625) dL_law_623 rfl rfl ?_
        refine ab_iconst (pc2 := 626) (v := 1) dL_law_625 rfl ab_k_iconst_1 ?_
        refine ab_iadd (pc2 := 627) dL_law_626 rfl ?_
        obtain ⟨b134, hf⟩ := ab_guard hf
        refine ab_sld (pc2 := 628) rfl (ab_in_vp b134) dL_law_627 rfl ?_
        refine ab_topI (v := xs (i4 + (1 : Int32)).toNatClampNeg) rfl ?_
        refine ab_aload_nS (pc2 := 629) dL_law_628 rfl rfl ?_
        refine ab_iload (pc2 := 631) dL_law_629 rfl rfl ?_
        refine ab_iconst (pc2 := 632) (v := 2) dL_law_631 rfl ab_k_iconst_2 ?_
        refine ab_iadd (pc2 := 633) dL_law_632 rfl ?_
        obtain ⟨b135, hf⟩ := ab_guard hf
        refine ab_sld (pc2 := 634) rfl (ab_in_vp b135) dL_law_633 rfl ?_
        refine ab_topI (v := xs (i4 + (2 : Int32)).toNatClampNeg) rfl ?_
        refine ab_aload_nS (pc2 := 635) dL_law_634 rfl rfl ?_
        refine ab_iload (pc2 := 637) dL_law_635 rfl rfl ?_
        refine ab_iconst (pc2 := 638) (v := 3) dL_law_637 rfl ab_k_iconst_3 ?_
        refine ab_iadd (pc2 := 639) dL_law_638 rfl ?_
        obtain ⟨b136, hf⟩ := ab_guard hf
        refine ab_sld (pc2 := 640) rfl (ab_in_vp b136) dL_law_639 rfl ?_
        refine ab_topI (v := xs (i4 + (3 : Int32)).toNatClampNeg) rfl ?_
        obtain ⟨q137, hq137, hf⟩ := ab_bind hf
        obtain ⟨w138, ew138, hf⟩ := ab_bind hf
        refine ab_callV (pc2 := 643) (st := []) hq137 (T_i1 q137 hq137) (by decide) (m_X11_free (d := (d + 50)) (T_i1 q137 hq137) ew138) mf_X11_free tw_405 tw_404 ts_X11_free (Or.inl (by decide +kernel)) dL_law_640 rfl (by omega) (by omega) (by omega) rfl (Nat.le_of_ble_eq_true rfl) (ab_kPi ?_)
        refine ab_aload_n (x := _) (pc2 := 644) dL_law_643 rfl rfl ?_
        refine ab_aload_nS (pc2 := 645) dL_law_644 rfl rfl ?_
        refine ab_iload (pc2 := 647) dL_law_645 rfl rfl ?_
        refine ab_iconst (pc2 := 648) (v := 1) dL_law_647 rfl ab_k_iconst_1 ?_
        refine ab_iadd (pc2 := 649) dL_law_648 rfl ?_
        obtain ⟨b139, hf⟩ := ab_guard hf
        refine ab_sld (pc2 := 650) rfl (ab_in_vp b139) dL_law_649 rfl ?_
        refine ab_topI (v := xs (i4 + (1 : Int32)).toNatClampNeg) rfl ?_
        refine ab_aload_nS (pc2 := 651) dL_law_650 rfl rfl ?_
        refine ab_iload (pc2 := 653) dL_law_651 rfl rfl ?_
        refine ab_iconst (pc2 := 654) (v := 2) dL_law_653 rfl ab_k_iconst_2 ?_
        refine ab_iadd (pc2 := 655) dL_law_654 rfl ?_
        obtain ⟨b140, hf⟩ := ab_guard hf
        refine ab_sld (pc2 := 656) rfl (ab_in_vp b140) dL_law_655 rfl ?_
        refine ab_topI (v := xs (i4 + (2 : Int32)).toNatClampNeg) rfl ?_
        refine ab_aload_nS (pc2 := 657) dL_law_656 rfl rfl ?_
        refine ab_iload (pc2 := 659) dL_law_657 rfl rfl ?_
        refine ab_iconst (pc2 := 660) (v := 3) dL_law_659 rfl ab_k_iconst_3 ?_
        refine ab_iadd (pc2 := 661) dL_law_660 rfl ?_
        obtain ⟨b141, hf⟩ := ab_guard hf
        refine ab_sld (pc2 := 662) rfl (ab_in_vp b141) dL_law_661 rfl ?_
        refine ab_topI (v := xs (i4 + (3 : Int32)).toNatClampNeg) rfl ?_
        obtain ⟨q142, hq142, hf⟩ := ab_bind hf
        obtain ⟨w143, ew143, hf⟩ := ab_bind hf
        refine ab_callV (pc2 := 665) (st := [_]) hq142 (T_i2 q142 hq142) (by decide) (m_X12_free (d := (d + 0)) (T_i2 q142 hq142) ew143) mf_X12_free tw_407 tw_406 ts_X12_free (Or.inl (by decide +kernel)) dL_law_662 rfl (by omega) (by omega) (by omega) rfl (Nat.le_of_ble_eq_true rfl) (ab_kPi ?_)
        refine ab_icmp_eq (tgt := 1391) (pc2 := 668) dL_law_665 (by decide) rfl hf (fun c144 hf => ?_) (fun c144 hf => ?_)
        · refine ab_iinc (pc2 := 1394) (v := _ + 6) (lo2 := [some (.float 0), some (va_rf _), some (va_rf _), some (va_rf _), some (.int _), none, none, none]) dL_law_1391 rfl rfl rfl (Nat.le_of_ble_eq_true rfl) (ab_st1_rf (j := 3) rfl rfl) ?_
          refine ab_goto (tgt := 23) dL_law_1394 (by decide) ?_
          exact ab_weak (ih _ _ _ _ _ _ _ (by omega) (by omega) T_i1 T_i2 T_i3 hf) (ab_leS (ab_leS (ab_leS (ab_leS (ab_leS (ab_leN (ab_leN (ab_leN ab_le0))))))))
        · refine ab_iconst (pc2 := 669) (v := 0) dL_law_668 rfl ab_k_iconst_0 ?_
          cases Option.some.inj hf
          exact ab_retI dL_law_669 (Or.inr ⟨rfl, (Or.inl rfl)⟩) (by omega) (by omega) ⟨rfl, rfl, (Or.inl rfl)⟩
      rcases ab_cas hf with ⟨s145, hf⟩ | ⟨s145, hf⟩
      · refine ab_tswK (tgt := 670) (off := 630) dL_law_40 s145 (by decide) (by decide) (by decide +kernel) (by decide) ?_
        refine ab_aload_n (x := _) (pc2 := 671) dL_law_670 rfl rfl ?_
        refine ab_aload_nS (pc2 := 672) dL_law_671 rfl rfl ?_
        refine ab_iload (pc2 := 674) dL_law_672 rfl rfl ?_
        refine ab_iconst (pc2 := 675) (v := 1) dL_law_674 rfl ab_k_iconst_1 ?_
        refine ab_iadd (pc2 := 676) dL_law_675 rfl ?_
        obtain ⟨b146, hf⟩ := ab_guard hf
        refine ab_sld (pc2 := 677) rfl (ab_in_vp b146) dL_law_676 rfl ?_
        refine ab_topI (v := xs (i4 + (1 : Int32)).toNatClampNeg) rfl ?_
        refine ab_aload_nS (pc2 := 678) dL_law_677 rfl rfl ?_
        refine ab_iload (pc2 := 680) dL_law_678 rfl rfl ?_
        refine ab_iconst (pc2 := 681) (v := 2) dL_law_680 rfl ab_k_iconst_2 ?_
        refine ab_iadd (pc2 := 682) dL_law_681 rfl ?_
        obtain ⟨b147, hf⟩ := ab_guard hf
        refine ab_sld (pc2 := 683) rfl (ab_in_vp b147) dL_law_682 rfl ?_
        refine ab_topI (v := xs (i4 + (2 : Int32)).toNatClampNeg) rfl ?_
        refine ab_aload_nS (pc2 := 684) dL_law_683 rfl rfl ?_
        refine ab_iload (pc2 := 686) dL_law_684 rfl rfl ?_
        refine ab_iconst (pc2 := 687) (v := 3) dL_law_686 rfl ab_k_iconst_3 ?_
        refine ab_iadd (pc2 := 688) dL_law_687 rfl ?_
        obtain ⟨b148, hf⟩ := ab_guard hf
        refine ab_sld (pc2 := 689) rfl (ab_in_vp b148) dL_law_688 rfl ?_
        refine ab_topI (v := xs (i4 + (3 : Int32)).toNatClampNeg) rfl ?_
        obtain ⟨q149, hq149, hf⟩ := ab_bind hf
        obtain ⟨w150, ew150, hf⟩ := ab_bind hf
        refine ab_callV (pc2 := 692) (st := []) hq149 (T_i1 q149 hq149) (by decide) (m_X11_plan (d := (d + 50)) (T_i1 q149 hq149) ew150) mf_X11_plan tw_409 tw_408 ts_X11_plan (Or.inl (by decide +kernel)) dL_law_689 rfl (by omega) (by omega) (by omega) rfl (Nat.le_of_ble_eq_true rfl) (ab_kPi ?_)
        refine ab_aload_n (x := _) (pc2 := 693) dL_law_692 rfl rfl ?_
        refine ab_aload_nS (pc2 := 694) dL_law_693 rfl rfl ?_
        refine ab_iload (pc2 := 696) dL_law_694 rfl rfl ?_
        refine ab_iconst (pc2 := 697) (v := 1) dL_law_696 rfl ab_k_iconst_1 ?_
        refine ab_iadd (pc2 := 698) dL_law_697 rfl ?_
        obtain ⟨b151, hf⟩ := ab_guard hf
        refine ab_sld (pc2 := 699) rfl (ab_in_vp b151) dL_law_698 rfl ?_
        refine ab_topI (v := xs (i4 + (1 : Int32)).toNatClampNeg) rfl ?_
        refine ab_aload_nS (pc2 := 700) dL_law_699 rfl rfl ?_
        refine ab_iload (pc2 := 702) dL_law_700 rfl rfl ?_
        refine ab_iconst (pc2 := 703) (v := 2) dL_law_702 rfl ab_k_iconst_2 ?_
        refine ab_iadd (pc2 := 704) dL_law_703 rfl ?_
        obtain ⟨b152, hf⟩ := ab_guard hf
        refine ab_sld (pc2 := 705) rfl (ab_in_vp b152) dL_law_704 rfl ?_
        refine ab_topI (v := xs (i4 + (2 : Int32)).toNatClampNeg) rfl ?_
        refine ab_aload_nS (pc2 := 706) dL_law_705 rfl rfl ?_
        refine ab_iload (pc2 := 708) dL_law_706 rfl rfl ?_
        refine ab_iconst (pc2 := 709) (v := 3) dL_law_708 rfl ab_k_iconst_3 ?_
        refine ab_iadd (pc2 := 710) dL_law_709 rfl ?_
        obtain ⟨b153, hf⟩ := ab_guard hf
        refine ab_sld (pc2 := 711) rfl (ab_in_vp b153) dL_law_710 rfl ?_
        refine ab_topI (v := xs (i4 + (3 : Int32)).toNatClampNeg) rfl ?_
        obtain ⟨q154, hq154, hf⟩ := ab_bind hf
        obtain ⟨w155, ew155, hf⟩ := ab_bind hf
        refine ab_callV (pc2 := 714) (st := [_]) hq154 (T_i2 q154 hq154) (by decide) (m_X12_plan (d := (d + 32)) (T_i2 q154 hq154) ew155) mf_X12_plan tw_411 tw_410 ts_X12_plan (Or.inl (by decide +kernel)) dL_law_711 rfl (by omega) (by omega) (by omega) rfl (Nat.le_of_ble_eq_true rfl) (ab_kPi ?_)
        refine ab_icmp_eq (tgt := 1391) (pc2 := 717) dL_law_714 (by decide) rfl hf (fun c156 hf => ?_) (fun c156 hf => ?_)
        · refine ab_iinc (pc2 := 1394) (v := _ + 6) (lo2 := [some (.float 0), some (va_rf _), some (va_rf _), some (va_rf _), some (.int _), none, none, none]) dL_law_1391 rfl rfl rfl (Nat.le_of_ble_eq_true rfl) (ab_st1_rf (j := 3) rfl rfl) ?_
          refine ab_goto (tgt := 23) dL_law_1394 (by decide) ?_
          exact ab_weak (ih _ _ _ _ _ _ _ (by omega) (by omega) T_i1 T_i2 T_i3 hf) (ab_leS (ab_leS (ab_leS (ab_leS (ab_leS (ab_leN (ab_leN (ab_leN ab_le0))))))))
        · refine ab_iconst (pc2 := 718) (v := 0) dL_law_717 rfl ab_k_iconst_0 ?_
          cases Option.some.inj hf
          exact ab_retI dL_law_718 (Or.inr ⟨rfl, (Or.inl rfl)⟩) (by omega) (by omega) ⟨rfl, rfl, (Or.inl rfl)⟩
      rcases ab_cas hf with ⟨s157, hf⟩ | ⟨s157, hf⟩
      · refine ab_tswK (tgt := 719) (off := 679) dL_law_40 s157 (by decide) (by decide) (by decide +kernel) (by decide) ?_
        refine ab_aload_n (x := _) (pc2 := 720) dL_law_719 rfl rfl ?_
        obtain ⟨q158, hq158, hf⟩ := ab_bind hf
        obtain ⟨w159, ew159, hf⟩ := ab_bind hf
        refine ab_callV (pc2 := 723) (st := []) hq158 (T_i1 q158 hq158) (by decide) (m_X11_ever (d := (d + 56)) (T_i1 q158 hq158) ew159) mf_X11_ever tw_413 tw_412 ts_X11_ever (Or.inl (by decide +kernel)) dL_law_720 rfl (by omega) (by omega) (by omega) rfl (Nat.le_of_ble_eq_true rfl) (ab_kPi ?_)
        refine ab_aload_n (x := _) (pc2 := 724) dL_law_723 rfl rfl ?_
        obtain ⟨q160, hq160, hf⟩ := ab_bind hf
        obtain ⟨w161, ew161, hf⟩ := ab_bind hf
        refine ab_callV (pc2 := 727) (st := [_]) hq160 (T_i2 q160 hq160) (by decide) (m_X12_ever (d := (d + 55)) (T_i2 q160 hq160) ew161) mf_X12_ever tw_415 tw_414 ts_X12_ever (Or.inl (by decide +kernel)) dL_law_724 rfl (by omega) (by omega) (by omega) rfl (Nat.le_of_ble_eq_true rfl) (ab_kPi ?_)
        refine ab_icmp_eq (tgt := 1391) (pc2 := 730) dL_law_727 (by decide) rfl hf (fun c162 hf => ?_) (fun c162 hf => ?_)
        · refine ab_iinc (pc2 := 1394) (v := _ + 6) (lo2 := [some (.float 0), some (va_rf _), some (va_rf _), some (va_rf _), some (.int _), none, none, none]) dL_law_1391 rfl rfl rfl (Nat.le_of_ble_eq_true rfl) (ab_st1_rf (j := 3) rfl rfl) ?_
          refine ab_goto (tgt := 23) dL_law_1394 (by decide) ?_
          exact ab_weak (ih _ _ _ _ _ _ _ (by omega) (by omega) T_i1 T_i2 T_i3 hf) (ab_leS (ab_leS (ab_leS (ab_leS (ab_leS (ab_leN (ab_leN (ab_leN ab_le0))))))))
        · refine ab_iconst (pc2 := 731) (v := 0) dL_law_730 rfl ab_k_iconst_0 ?_
          cases Option.some.inj hf
          exact ab_retI dL_law_731 (Or.inr ⟨rfl, (Or.inl rfl)⟩) (by omega) (by omega) ⟨rfl, rfl, (Or.inl rfl)⟩
      rcases ab_cas hf with ⟨s163, hf⟩ | ⟨s163, hf⟩
      · refine ab_tswK (tgt := 732) (off := 692) dL_law_40 s163 (by decide) (by decide) (by decide +kernel) (by decide) ?_
        refine ab_aload_n (x := _) (pc2 := 733) dL_law_732 rfl rfl ?_
        obtain ⟨q164, hq164, hf⟩ := ab_bind hf
        obtain ⟨w165, ew165, hf⟩ := ab_bind hf
        refine ab_callV (pc2 := 736) (st := []) hq164 (T_i1 q164 hq164) (by decide) (m_X11_help (d := (d + 55)) (T_i1 q164 hq164) ew165) mf_X11_help tw_417 tw_416 ts_X11_help (Or.inl (by decide +kernel)) dL_law_733 rfl (by omega) (by omega) (by omega) rfl (Nat.le_of_ble_eq_true rfl) (ab_kPi ?_)
        refine ab_aload_n (x := _) (pc2 := 737) dL_law_736 rfl rfl ?_
        obtain ⟨q166, hq166, hf⟩ := ab_bind hf
        obtain ⟨w167, ew167, hf⟩ := ab_bind hf
        refine ab_callV (pc2 := 740) (st := [_]) hq166 (T_i2 q166 hq166) (by decide) (m_X12_help (d := (d + 54)) (T_i2 q166 hq166) ew167) mf_X12_help tw_419 tw_418 ts_X12_help (Or.inl (by decide +kernel)) dL_law_737 rfl (by omega) (by omega) (by omega) rfl (Nat.le_of_ble_eq_true rfl) (ab_kPi ?_)
        refine ab_icmp_eq (tgt := 1391) (pc2 := 743) dL_law_740 (by decide) rfl hf (fun c168 hf => ?_) (fun c168 hf => ?_)
        · refine ab_iinc (pc2 := 1394) (v := _ + 6) (lo2 := [some (.float 0), some (va_rf _), some (va_rf _), some (va_rf _), some (.int _), none, none, none]) dL_law_1391 rfl rfl rfl (Nat.le_of_ble_eq_true rfl) (ab_st1_rf (j := 3) rfl rfl) ?_
          refine ab_goto (tgt := 23) dL_law_1394 (by decide) ?_
          exact ab_weak (ih _ _ _ _ _ _ _ (by omega) (by omega) T_i1 T_i2 T_i3 hf) (ab_leS (ab_leS (ab_leS (ab_leS (ab_leS (ab_leN (ab_leN (ab_leN ab_le0))))))))
        · refine ab_iconst (pc2 := 744) (v := 0) dL_law_743 rfl ab_k_iconst_0 ?_
          cases Option.some.inj hf
          exact ab_retI dL_law_744 (Or.inr ⟨rfl, (Or.inl rfl)⟩) (by omega) (by omega) ⟨rfl, rfl, (Or.inl rfl)⟩
      rcases ab_cas hf with ⟨s169, hf⟩ | ⟨s169, hf⟩
      · refine ab_tswK (tgt := 745) (off := 705) dL_law_40 s169 (by decide) (by decide) (by decide +kernel) (by decide) ?_
        refine ab_aload_n (x := _) (pc2 := 746) dL_law_745 rfl rfl ?_
        refine ab_aload_nS (pc2 := 747) dL_law_746 rfl rfl ?_
        refine ab_iload (pc2 := 749) dL_law_747 rfl rfl ?_
        refine ab_iconst (pc2 := 750) (v := 1) dL_law_749 rfl ab_k_iconst_1 ?_
        refine ab_iadd (pc2 := 751) dL_law_750 rfl ?_
        obtain ⟨b170, hf⟩ := ab_guard hf
        refine ab_sld (pc2 := 752) rfl (ab_in_vp b170) dL_law_751 rfl ?_
        refine ab_topI (v := xs (i4 + (1 : Int32)).toNatClampNeg) rfl ?_
        refine ab_aload_nS (pc2 := 753) dL_law_752 rfl rfl ?_
        refine ab_iload (pc2 := 755) dL_law_753 rfl rfl ?_
        refine ab_iconst (pc2 := 756) (v := 2) dL_law_755 rfl ab_k_iconst_2 ?_
        refine ab_iadd (pc2 := 757) dL_law_756 rfl ?_
        obtain ⟨b171, hf⟩ := ab_guard hf
        refine ab_sld (pc2 := 758) rfl (ab_in_vp b171) dL_law_757 rfl ?_
        refine ab_topI (v := xs (i4 + (2 : Int32)).toNatClampNeg) rfl ?_
        refine ab_aload_nS (pc2 := 759) dL_law_758 rfl rfl ?_
        refine ab_iload (pc2 := 761) dL_law_759 rfl rfl ?_
        refine ab_iconst (pc2 := 762) (v := 3) dL_law_761 rfl ab_k_iconst_3 ?_
        refine ab_iadd (pc2 := 763) dL_law_762 rfl ?_
        obtain ⟨b172, hf⟩ := ab_guard hf
        refine ab_sld (pc2 := 764) rfl (ab_in_vp b172) dL_law_763 rfl ?_
        refine ab_topI (v := xs (i4 + (3 : Int32)).toNatClampNeg) rfl ?_
        refine ab_aload_nS (pc2 := 765) dL_law_764 rfl rfl ?_
        refine ab_iload (pc2 := 767) dL_law_765 rfl rfl ?_
        refine ab_iconst (pc2 := 768) (v := 4) dL_law_767 rfl ab_k_iconst_4 ?_
        refine ab_iadd (pc2 := 769) dL_law_768 rfl ?_
        obtain ⟨b173, hf⟩ := ab_guard hf
        refine ab_sld (pc2 := 770) rfl (ab_in_vp b173) dL_law_769 rfl ?_
        refine ab_topI (v := xs (i4 + (4 : Int32)).toNatClampNeg) rfl ?_
        refine ab_aload_nS (pc2 := 771) dL_law_770 rfl rfl ?_
        refine ab_iload (pc2 := 773) dL_law_771 rfl rfl ?_
        refine ab_iconst (pc2 := 774) (v := 5) dL_law_773 rfl ab_k_iconst_5 ?_
        refine ab_iadd (pc2 := 775) dL_law_774 rfl ?_
        obtain ⟨b174, hf⟩ := ab_guard hf
        refine ab_sld (pc2 := 776) rfl (ab_in_vp b174) dL_law_775 rfl ?_
        refine ab_topI (v := xs (i4 + (5 : Int32)).toNatClampNeg) rfl ?_
        obtain ⟨q175, hq175, hf⟩ := ab_bind hf
        obtain ⟨w176, ew176, hf⟩ := ab_bind hf
        refine ab_callV (pc2 := 779) (st := []) hq175 (T_i1 q175 hq175) (by decide) (m_X11_two (d := (d + 51)) (T_i1 q175 hq175) ew176) mf_X11_two tw_421 tw_420 ts_X11_two (Or.inl (by decide +kernel)) dL_law_776 rfl (by omega) (by omega) (by omega) rfl (Nat.le_of_ble_eq_true rfl) (ab_kPi ?_)
        refine ab_aload_n (x := _) (pc2 := 780) dL_law_779 rfl rfl ?_
        refine ab_aload_nS (pc2 := 781) dL_law_780 rfl rfl ?_
        refine ab_iload (pc2 := 783) dL_law_781 rfl rfl ?_
        refine ab_iconst (pc2 := 784) (v := 1) dL_law_783 rfl ab_k_iconst_1 ?_
        refine ab_iadd (pc2 := 785) dL_law_784 rfl ?_
        obtain ⟨b177, hf⟩ := ab_guard hf
        refine ab_sld (pc2 := 786) rfl (ab_in_vp b177) dL_law_785 rfl ?_
        refine ab_topI (v := xs (i4 + (1 : Int32)).toNatClampNeg) rfl ?_
        refine ab_aload_nS (pc2 := 787) dL_law_786 rfl rfl ?_
        refine ab_iload (pc2 := 789) dL_law_787 rfl rfl ?_
        refine ab_iconst (pc2 := 790) (v := 2) dL_law_789 rfl ab_k_iconst_2 ?_
        refine ab_iadd (pc2 := 791) dL_law_790 rfl ?_
        obtain ⟨b178, hf⟩ := ab_guard hf
        refine ab_sld (pc2 := 792) rfl (ab_in_vp b178) dL_law_791 rfl ?_
        refine ab_topI (v := xs (i4 + (2 : Int32)).toNatClampNeg) rfl ?_
        refine ab_aload_nS (pc2 := 793) dL_law_792 rfl rfl ?_
        refine ab_iload (pc2 := 795) dL_law_793 rfl rfl ?_
        refine ab_iconst (pc2 := 796) (v := 3) dL_law_795 rfl ab_k_iconst_3 ?_
        refine ab_iadd (pc2 := 797) dL_law_796 rfl ?_
        obtain ⟨b179, hf⟩ := ab_guard hf
        refine ab_sld (pc2 := 798) rfl (ab_in_vp b179) dL_law_797 rfl ?_
        refine ab_topI (v := xs (i4 + (3 : Int32)).toNatClampNeg) rfl ?_
        refine ab_aload_nS (pc2 := 799) dL_law_798 rfl rfl ?_
        refine ab_iload (pc2 := 801) dL_law_799 rfl rfl ?_
        refine ab_iconst (pc2 := 802) (v := 4) dL_law_801 rfl ab_k_iconst_4 ?_
        refine ab_iadd (pc2 := 803) dL_law_802 rfl ?_
        obtain ⟨b180, hf⟩ := ab_guard hf
        refine ab_sld (pc2 := 804) rfl (ab_in_vp b180) dL_law_803 rfl ?_
        refine ab_topI (v := xs (i4 + (4 : Int32)).toNatClampNeg) rfl ?_
        refine ab_aload_nS (pc2 := 805) dL_law_804 rfl rfl ?_
        refine ab_iload (pc2 := 807) dL_law_805 rfl rfl ?_
        refine ab_iconst (pc2 := 808) (v := 5) dL_law_807 rfl ab_k_iconst_5 ?_
        refine ab_iadd (pc2 := 809) dL_law_808 rfl ?_
        obtain ⟨b181, hf⟩ := ab_guard hf
        refine ab_sld (pc2 := 810) rfl (ab_in_vp b181) dL_law_809 rfl ?_
        refine ab_topI (v := xs (i4 + (5 : Int32)).toNatClampNeg) rfl ?_
        obtain ⟨q182, hq182, hf⟩ := ab_bind hf
        obtain ⟨w183, ew183, hf⟩ := ab_bind hf
        refine ab_callV (pc2 := 813) (st := [_]) hq182 (T_i2 q182 hq182) (by decide) (m_X12_two (d := (d + 50)) (T_i2 q182 hq182) ew183) mf_X12_two tw_423 tw_422 ts_X12_two (Or.inl (by decide +kernel)) dL_law_810 rfl (by omega) (by omega) (by omega) rfl (Nat.le_of_ble_eq_true rfl) (ab_kPi ?_)
        refine ab_icmp_eq (tgt := 1391) (pc2 := 816) dL_law_813 (by decide) rfl hf (fun c184 hf => ?_) (fun c184 hf => ?_)
        · refine ab_iinc (pc2 := 1394) (v := _ + 6) (lo2 := [some (.float 0), some (va_rf _), some (va_rf _), some (va_rf _), some (.int _), none, none, none]) dL_law_1391 rfl rfl rfl (Nat.le_of_ble_eq_true rfl) (ab_st1_rf (j := 3) rfl rfl) ?_
          refine ab_goto (tgt := 23) dL_law_1394 (by decide) ?_
          exact ab_weak (ih _ _ _ _ _ _ _ (by omega) (by omega) T_i1 T_i2 T_i3 hf) (ab_leS (ab_leS (ab_leS (ab_leS (ab_leS (ab_leN (ab_leN (ab_leN ab_le0))))))))
        · refine ab_iconst (pc2 := 817) (v := 0) dL_law_816 rfl ab_k_iconst_0 ?_
          cases Option.some.inj hf
          exact ab_retI dL_law_817 (Or.inr ⟨rfl, (Or.inl rfl)⟩) (by omega) (by omega) ⟨rfl, rfl, (Or.inl rfl)⟩
      rcases ab_cas hf with ⟨s185, hf⟩ | ⟨s185, hf⟩
      · refine ab_tswK (tgt := 818) (off := 778) dL_law_40 s185 (by decide) (by decide) (by decide +kernel) (by decide) ?_
        refine ab_aload_n (x := _) (pc2 := 819) dL_law_818 rfl rfl ?_
        obtain ⟨q186, hq186, hf⟩ := ab_bind hf
        obtain ⟨w187, ew187, hf⟩ := ab_bind hf
        refine ab_callV (pc2 := 822) (st := []) hq186 (T_i1 q186 hq186) (by decide) (m_X11_month (d := (d + 56)) (T_i1 q186 hq186) ew187) mf_X11_month tw_425 tw_424 ts_X11_month (Or.inl (by decide +kernel)) dL_law_819 rfl (by omega) (by omega) (by omega) rfl (Nat.le_of_ble_eq_true rfl) (ab_kPi ?_)
        refine ab_aload_n (x := _) (pc2 := 823) dL_law_822 rfl rfl ?_
        obtain ⟨q188, hq188, hf⟩ := ab_bind hf
        obtain ⟨w189, ew189, hf⟩ := ab_bind hf
        refine ab_callV (pc2 := 826) (st := [_]) hq188 (T_i2 q188 hq188) (by decide) (m_X12_month (d := (d + 56)) (T_i2 q188 hq188) ew189) mf_X12_month tw_427 tw_426 ts_X12_month (Or.inl (by decide +kernel)) dL_law_823 rfl (by omega) (by omega) (by omega) rfl (Nat.le_of_ble_eq_true rfl) (ab_kPi ?_)
        refine ab_icmp_eq (tgt := 1391) (pc2 := 829) dL_law_826 (by decide) rfl hf (fun c190 hf => ?_) (fun c190 hf => ?_)
        · refine ab_iinc (pc2 := 1394) (v := _ + 6) (lo2 := [some (.float 0), some (va_rf _), some (va_rf _), some (va_rf _), some (.int _), none, none, none]) dL_law_1391 rfl rfl rfl (Nat.le_of_ble_eq_true rfl) (ab_st1_rf (j := 3) rfl rfl) ?_
          refine ab_goto (tgt := 23) dL_law_1394 (by decide) ?_
          exact ab_weak (ih _ _ _ _ _ _ _ (by omega) (by omega) T_i1 T_i2 T_i3 hf) (ab_leS (ab_leS (ab_leS (ab_leS (ab_leS (ab_leN (ab_leN (ab_leN ab_le0))))))))
        · refine ab_iconst (pc2 := 830) (v := 0) dL_law_829 rfl ab_k_iconst_0 ?_
          cases Option.some.inj hf
          exact ab_retI dL_law_830 (Or.inr ⟨rfl, (Or.inl rfl)⟩) (by omega) (by omega) ⟨rfl, rfl, (Or.inl rfl)⟩
      rcases ab_cas hf with ⟨s191, hf⟩ | ⟨s191, hf⟩
      · refine ab_tswK (tgt := 831) (off := 791) dL_law_40 s191 (by decide) (by decide) (by decide +kernel) (by decide) ?_
        refine ab_aload_n (x := _) (pc2 := 832) dL_law_831 rfl rfl ?_
        refine ab_aload_nS (pc2 := 833) dL_law_832 rfl rfl ?_
        refine ab_iload (pc2 := 835) dL_law_833 rfl rfl ?_
        refine ab_iconst (pc2 := 836) (v := 1) dL_law_835 rfl ab_k_iconst_1 ?_
        refine ab_iadd (pc2 := 837) dL_law_836 rfl ?_
        obtain ⟨b192, hf⟩ := ab_guard hf
        refine ab_sld (pc2 := 838) rfl (ab_in_vp b192) dL_law_837 rfl ?_
        refine ab_topI (v := xs (i4 + (1 : Int32)).toNatClampNeg) rfl ?_
        obtain ⟨q193, hq193, hf⟩ := ab_bind hf
        obtain ⟨w194, ew194, hf⟩ := ab_bind hf
        refine ab_callV (pc2 := 841) (st := []) hq193 (T_i1 q193 hq193) (by decide) (m_X11_nail (d := (d + 56)) (T_i1 q193 hq193) ew194) mf_X11_nail tw_429 tw_428 ts_X11_nail (Or.inl (by decide +kernel)) dL_law_838 rfl (by omega) (by omega) (by omega) rfl (Nat.le_of_ble_eq_true rfl) (ab_kPi ?_)
        refine ab_aload_n (x := _) (pc2 := 842) dL_law_841 rfl rfl ?_
        refine ab_aload_nS (pc2 := 843) dL_law_842 rfl rfl ?_
        refine ab_iload (pc2 := 845) dL_law_843 rfl rfl ?_
        refine ab_iconst (pc2 := 846) (v := 1) dL_law_845 rfl ab_k_iconst_1 ?_
        refine ab_iadd (pc2 := 847) dL_law_846 rfl ?_
        obtain ⟨b195, hf⟩ := ab_guard hf
        refine ab_sld (pc2 := 848) rfl (ab_in_vp b195) dL_law_847 rfl ?_
        refine ab_topI (v := xs (i4 + (1 : Int32)).toNatClampNeg) rfl ?_
        obtain ⟨q196, hq196, hf⟩ := ab_bind hf
        obtain ⟨w197, ew197, hf⟩ := ab_bind hf
        refine ab_callV (pc2 := 851) (st := [_]) hq196 (T_i2 q196 hq196) (by decide) (m_X12_nail (d := (d + 56)) (T_i2 q196 hq196) ew197) mf_X12_nail tw_431 tw_430 ts_X12_nail (Or.inl (by decide +kernel)) dL_law_848 rfl (by omega) (by omega) (by omega) rfl (Nat.le_of_ble_eq_true rfl) (ab_kPi ?_)
        refine ab_icmp_eq (tgt := 1391) (pc2 := 854) dL_law_851 (by decide) rfl hf (fun c198 hf => ?_) (fun c198 hf => ?_)
        · refine ab_iinc (pc2 := 1394) (v := _ + 6) (lo2 := [some (.float 0), some (va_rf _), some (va_rf _), some (va_rf _), some (.int _), none, none, none]) dL_law_1391 rfl rfl rfl (Nat.le_of_ble_eq_true rfl) (ab_st1_rf (j := 3) rfl rfl) ?_
          refine ab_goto (tgt := 23) dL_law_1394 (by decide) ?_
          exact ab_weak (ih _ _ _ _ _ _ _ (by omega) (by omega) T_i1 T_i2 T_i3 hf) (ab_leS (ab_leS (ab_leS (ab_leS (ab_leS (ab_leN (ab_leN (ab_leN ab_le0))))))))
        · refine ab_iconst (pc2 := 855) (v := 0) dL_law_854 rfl ab_k_iconst_0 ?_
          cases Option.some.inj hf
          exact ab_retI dL_law_855 (Or.inr ⟨rfl, (Or.inl rfl)⟩) (by omega) (by omega) ⟨rfl, rfl, (Or.inl rfl)⟩
      rcases ab_cas hf with ⟨s199, hf⟩ | ⟨s199, hf⟩
      · refine ab_tswK (tgt := 856) (off := 816) dL_law_40 s199 (by decide) (by decide) (by decide +kernel) (by decide) ?_
        refine ab_aload_n (x := _) (pc2 := 857) dL_law_856 rfl rfl ?_
        refine ab_aload_nS (pc2 := 858) dL_law_857 rfl rfl ?_
        refine ab_iload (pc2 := 860) dL_law_858 rfl rfl ?_
        refine ab_iconst (pc2 := 861) (v := 1) dL_law_860 rfl ab_k_iconst_1 ?_
        refine ab_iadd (pc2 := 862) dL_law_861 rfl ?_
        obtain ⟨b200, hf⟩ := ab_guard hf
        refine ab_sld (pc2 := 863) rfl (ab_in_vp b200) dL_law_862 rfl ?_
        refine ab_topI (v := xs (i4 + (1 : Int32)).toNatClampNeg) rfl ?_
        refine ab_aload_nS (pc2 := 864) dL_law_863 rfl rfl ?_
        refine ab_iload (pc2 := 866) dL_law_864 rfl rfl ?_
        refine ab_iconst (pc2 := 867) (v := 2) dL_law_866 rfl ab_k_iconst_2 ?_
        refine ab_iadd (pc2 := 868) dL_law_867 rfl ?_
        obtain ⟨b201, hf⟩ := ab_guard hf
        refine ab_sld (pc2 := 869) rfl (ab_in_vp b201) dL_law_868 rfl ?_
        refine ab_topI (v := xs (i4 + (2 : Int32)).toNatClampNeg) rfl ?_
        refine ab_aload_nS (pc2 := 870) dL_law_869 rfl rfl ?_
        refine ab_iload (pc2 := 872) dL_law_870 rfl rfl ?_
        refine ab_iconst (pc2 := 873) (v := 3) dL_law_872 rfl ab_k_iconst_3 ?_
        refine ab_iadd (pc2 := 874) dL_law_873 rfl ?_
        obtain ⟨b202, hf⟩ := ab_guard hf
        refine ab_sld (pc2 := 875) rfl (ab_in_vp b202) dL_law_874 rfl ?_
        refine ab_topI (v := xs (i4 + (3 : Int32)).toNatClampNeg) rfl ?_
        obtain ⟨q203, hq203, hf⟩ := ab_bind hf
        obtain ⟨w204, ew204, hf⟩ := ab_bind hf
        refine ab_callV (pc2 := 878) (st := []) hq203 (T_i1 q203 hq203) (by decide) (m_X11_byLaw (d := (d + 52)) (T_i1 q203 hq203) ew204) mf_X11_byLaw tw_433 tw_432 ts_X11_byLaw (Or.inl (by decide +kernel)) dL_law_875 rfl (by omega) (by omega) (by omega) rfl (Nat.le_of_ble_eq_true rfl) (ab_kPi ?_)
        refine ab_aload_n (x := _) (pc2 := 879) dL_law_878 rfl rfl ?_
        refine ab_aload_nS (pc2 := 880) dL_law_879 rfl rfl ?_
        refine ab_iload (pc2 := 882) dL_law_880 rfl rfl ?_
        refine ab_iconst (pc2 := 883) (v := 1) dL_law_882 rfl ab_k_iconst_1 ?_
        refine ab_iadd (pc2 := 884) dL_law_883 rfl ?_
        obtain ⟨b205, hf⟩ := ab_guard hf
        refine ab_sld (pc2 := 885) rfl (ab_in_vp b205) dL_law_884 rfl ?_
        refine ab_topI (v := xs (i4 + (1 : Int32)).toNatClampNeg) rfl ?_
        refine ab_aload_nS (pc2 := 886) dL_law_885 rfl rfl ?_
        refine ab_iload (pc2 := 888) dL_law_886 rfl rfl ?_
        refine ab_iconst (pc2 := 889) (v := 2) dL_law_888 rfl ab_k_iconst_2 ?_
        refine ab_iadd (pc2 := 890) dL_law_889 rfl ?_
        obtain ⟨b206, hf⟩ := ab_guard hf
        refine ab_sld (pc2 := 891) rfl (ab_in_vp b206) dL_law_890 rfl ?_
        refine ab_topI (v := xs (i4 + (2 : Int32)).toNatClampNeg) rfl ?_
        refine ab_aload_nS (pc2 := 892) dL_law_891 rfl rfl ?_
        refine ab_iload (pc2 := 894) dL_law_892 rfl rfl ?_
        refine ab_iconst (pc2 := 895) (v := 3) dL_law_894 rfl ab_k_iconst_3 ?_
        refine ab_iadd (pc2 := 896) dL_law_895 rfl ?_
        obtain ⟨b207, hf⟩ := ab_guard hf
        refine ab_sld (pc2 := 897) rfl (ab_in_vp b207) dL_law_896 rfl ?_
        refine ab_topI (v := xs (i4 + (3 : Int32)).toNatClampNeg) rfl ?_
        obtain ⟨q208, hq208, hf⟩ := ab_bind hf
        obtain ⟨w209, ew209, hf⟩ := ab_bind hf
        refine ab_callV (pc2 := 900) (st := [_]) hq208 (T_i2 q208 hq208) (by decide) (m_X12_byLaw (d := (d + 50)) (T_i2 q208 hq208) ew209) mf_X12_byLaw tw_435 tw_434 ts_X12_byLaw (Or.inl (by decide +kernel)) dL_law_897 rfl (by omega) (by omega) (by omega) rfl (Nat.le_of_ble_eq_true rfl) (ab_kPi ?_)
        refine ab_icmp_eq (tgt := 1391) (pc2 := 903) dL_law_900 (by decide) rfl hf (fun c210 hf => ?_) (fun c210 hf => ?_)
        · refine ab_iinc (pc2 := 1394) (v := _ + 6) (lo2 := [some (.float 0), some (va_rf _), some (va_rf _), some (va_rf _), some (.int _), none, none, none]) dL_law_1391 rfl rfl rfl (Nat.le_of_ble_eq_true rfl) (ab_st1_rf (j := 3) rfl rfl) ?_
          refine ab_goto (tgt := 23) dL_law_1394 (by decide) ?_
          exact ab_weak (ih _ _ _ _ _ _ _ (by omega) (by omega) T_i1 T_i2 T_i3 hf) (ab_leS (ab_leS (ab_leS (ab_leS (ab_leS (ab_leN (ab_leN (ab_leN ab_le0))))))))
        · refine ab_iconst (pc2 := 904) (v := 0) dL_law_903 rfl ab_k_iconst_0 ?_
          cases Option.some.inj hf
          exact ab_retI dL_law_904 (Or.inr ⟨rfl, (Or.inl rfl)⟩) (by omega) (by omega) ⟨rfl, rfl, (Or.inl rfl)⟩
      rcases ab_cas hf with ⟨s211, hf⟩ | ⟨s211, hf⟩
      · refine ab_tswK (tgt := 905) (off := 865) dL_law_40 s211 (by decide) (by decide) (by decide +kernel) (by decide) ?_
        refine ab_aload_n (x := _) (pc2 := 906) dL_law_905 rfl rfl ?_
        refine ab_aload_nS (pc2 := 907) dL_law_906 rfl rfl ?_
        refine ab_iload (pc2 := 909) dL_law_907 rfl rfl ?_
        refine ab_iconst (pc2 := 910) (v := 1) dL_law_909 rfl ab_k_iconst_1 ?_
        refine ab_iadd (pc2 := 911) dL_law_910 rfl ?_
        obtain ⟨b212, hf⟩ := ab_guard hf
        refine ab_sld (pc2 := 912) rfl (ab_in_vp b212) dL_law_911 rfl ?_
        refine ab_topI (v := xs (i4 + (1 : Int32)).toNatClampNeg) rfl ?_
        refine ab_aload_nS (pc2 := 913) dL_law_912 rfl rfl ?_
        refine ab_iload (pc2 := 915) dL_law_913 rfl rfl ?_
        refine ab_iconst (pc2 := 916) (v := 2) dL_law_915 rfl ab_k_iconst_2 ?_
        refine ab_iadd (pc2 := 917) dL_law_916 rfl ?_
        obtain ⟨b213, hf⟩ := ab_guard hf
        refine ab_sld (pc2 := 918) rfl (ab_in_vp b213) dL_law_917 rfl ?_
        refine ab_topI (v := xs (i4 + (2 : Int32)).toNatClampNeg) rfl ?_
        refine ab_aload_nS (pc2 := 919) dL_law_918 rfl rfl ?_
        refine ab_iload (pc2 := 921) dL_law_919 rfl rfl ?_
        refine ab_iconst (pc2 := 922) (v := 3) dL_law_921 rfl ab_k_iconst_3 ?_
        refine ab_iadd (pc2 := 923) dL_law_922 rfl ?_
        obtain ⟨b214, hf⟩ := ab_guard hf
        refine ab_sld (pc2 := 924) rfl (ab_in_vp b214) dL_law_923 rfl ?_
        refine ab_topI (v := xs (i4 + (3 : Int32)).toNatClampNeg) rfl ?_
        obtain ⟨q215, hq215, hf⟩ := ab_bind hf
        obtain ⟨w216, ew216, hf⟩ := ab_bind hf
        refine ab_callV (pc2 := 927) (st := []) hq215 (T_i1 q215 hq215) (by decide) (m_X11_seeded (d := (d + 52)) (T_i1 q215 hq215) ew216) mf_X11_seeded tw_437 tw_436 ts_X11_seeded (Or.inl (by decide +kernel)) dL_law_924 rfl (by omega) (by omega) (by omega) rfl (Nat.le_of_ble_eq_true rfl) (ab_kPi ?_)
        refine ab_aload_n (x := _) (pc2 := 928) dL_law_927 rfl rfl ?_
        refine ab_aload_nS (pc2 := 929) dL_law_928 rfl rfl ?_
        refine ab_iload (pc2 := 931) dL_law_929 rfl rfl ?_
        refine ab_iconst (pc2 := 932) (v := 1) dL_law_931 rfl ab_k_iconst_1 ?_
        refine ab_iadd (pc2 := 933) dL_law_932 rfl ?_
        obtain ⟨b217, hf⟩ := ab_guard hf
        refine ab_sld (pc2 := 934) rfl (ab_in_vp b217) dL_law_933 rfl ?_
        refine ab_topI (v := xs (i4 + (1 : Int32)).toNatClampNeg) rfl ?_
        refine ab_aload_nS (pc2 := 935) dL_law_934 rfl rfl ?_
        refine ab_iload (pc2 := 937) dL_law_935 rfl rfl ?_
        refine ab_iconst (pc2 := 938) (v := 2) dL_law_937 rfl ab_k_iconst_2 ?_
        refine ab_iadd (pc2 := 939) dL_law_938 rfl ?_
        obtain ⟨b218, hf⟩ := ab_guard hf
        refine ab_sld (pc2 := 940) rfl (ab_in_vp b218) dL_law_939 rfl ?_
        refine ab_topI (v := xs (i4 + (2 : Int32)).toNatClampNeg) rfl ?_
        refine ab_aload_nS (pc2 := 941) dL_law_940 rfl rfl ?_
        refine ab_iload (pc2 := 943) dL_law_941 rfl rfl ?_
        refine ab_iconst (pc2 := 944) (v := 3) dL_law_943 rfl ab_k_iconst_3 ?_
        refine ab_iadd (pc2 := 945) dL_law_944 rfl ?_
        obtain ⟨b219, hf⟩ := ab_guard hf
        refine ab_sld (pc2 := 946) rfl (ab_in_vp b219) dL_law_945 rfl ?_
        refine ab_topI (v := xs (i4 + (3 : Int32)).toNatClampNeg) rfl ?_
        obtain ⟨q220, hq220, hf⟩ := ab_bind hf
        obtain ⟨w221, ew221, hf⟩ := ab_bind hf
        refine ab_callV (pc2 := 949) (st := [_]) hq220 (T_i2 q220 hq220) (by decide) (m_X12_seeded (d := (d + 50)) (T_i2 q220 hq220) ew221) mf_X12_seeded tw_439 tw_438 ts_X12_seeded (Or.inl (by decide +kernel)) dL_law_946 rfl (by omega) (by omega) (by omega) rfl (Nat.le_of_ble_eq_true rfl) (ab_kPi ?_)
        refine ab_icmp_eq (tgt := 1391) (pc2 := 952) dL_law_949 (by decide) rfl hf (fun c222 hf => ?_) (fun c222 hf => ?_)
        · refine ab_iinc (pc2 := 1394) (v := _ + 6) (lo2 := [some (.float 0), some (va_rf _), some (va_rf _), some (va_rf _), some (.int _), none, none, none]) dL_law_1391 rfl rfl rfl (Nat.le_of_ble_eq_true rfl) (ab_st1_rf (j := 3) rfl rfl) ?_
          refine ab_goto (tgt := 23) dL_law_1394 (by decide) ?_
          exact ab_weak (ih _ _ _ _ _ _ _ (by omega) (by omega) T_i1 T_i2 T_i3 hf) (ab_leS (ab_leS (ab_leS (ab_leS (ab_leS (ab_leN (ab_leN (ab_leN ab_le0))))))))
        · refine ab_iconst (pc2 := 953) (v := 0) dL_law_952 rfl ab_k_iconst_0 ?_
          cases Option.some.inj hf
          exact ab_retI dL_law_953 (Or.inr ⟨rfl, (Or.inl rfl)⟩) (by omega) (by omega) ⟨rfl, rfl, (Or.inl rfl)⟩
      rcases ab_cas hf with ⟨s223, hf⟩ | ⟨s223, hf⟩
      · refine ab_tswK (tgt := 954) (off := 914) dL_law_40 s223 (by decide) (by decide) (by decide +kernel) (by decide) ?_
        refine ab_aload_n (x := _) (pc2 := 955) dL_law_954 rfl rfl ?_
        refine ab_aload_nS (pc2 := 956) dL_law_955 rfl rfl ?_
        refine ab_iload (pc2 := 958) dL_law_956 rfl rfl ?_
        refine ab_iconst (pc2 := 959) (v := 1) dL_law_958 rfl ab_k_iconst_1 ?_
        refine ab_iadd (pc2 := 960) dL_law_959 rfl ?_
        obtain ⟨b224, hf⟩ := ab_guard hf
        refine ab_sld (pc2 := 961) rfl (ab_in_vp b224) dL_law_960 rfl ?_
        refine ab_topI (v := xs (i4 + (1 : Int32)).toNatClampNeg) rfl ?_
        refine ab_aload_nS (pc2 := 962) dL_law_961 rfl rfl ?_
        refine ab_iload (pc2 := 964) dL_law_962 rfl rfl ?_
        refine ab_iconst (pc2 := 965) (v := 2) dL_law_964 rfl ab_k_iconst_2 ?_
        refine ab_iadd (pc2 := 966) dL_law_965 rfl ?_
        obtain ⟨b225, hf⟩ := ab_guard hf
        refine ab_sld (pc2 := 967) rfl (ab_in_vp b225) dL_law_966 rfl ?_
        refine ab_topI (v := xs (i4 + (2 : Int32)).toNatClampNeg) rfl ?_
        refine ab_aload_nS (pc2 := 968) dL_law_967 rfl rfl ?_
        refine ab_iload (pc2 := 970) dL_law_968 rfl rfl ?_
        refine ab_iconst (pc2 := 971) (v := 3) dL_law_970 rfl ab_k_iconst_3 ?_
        refine ab_iadd (pc2 := 972) dL_law_971 rfl ?_
        obtain ⟨b226, hf⟩ := ab_guard hf
        refine ab_sld (pc2 := 973) rfl (ab_in_vp b226) dL_law_972 rfl ?_
        refine ab_topI (v := xs (i4 + (3 : Int32)).toNatClampNeg) rfl ?_
        obtain ⟨q227, hq227, hf⟩ := ab_bind hf
        obtain ⟨w228, ew228, hf⟩ := ab_bind hf
        refine ab_callV (pc2 := 976) (st := []) hq227 (T_i1 q227 hq227) (by decide) (m_X11_judge (d := (d + 52)) (T_i1 q227 hq227) ew228) mf_X11_judge tw_441 tw_440 ts_X11_judge (Or.inl (by decide +kernel)) dL_law_973 rfl (by omega) (by omega) (by omega) rfl (Nat.le_of_ble_eq_true rfl) (ab_kPi ?_)
        refine ab_aload_n (x := _) (pc2 := 977) dL_law_976 rfl rfl ?_
        refine ab_aload_nS (pc2 := 978) dL_law_977 rfl rfl ?_
        refine ab_iload (pc2 := 980) dL_law_978 rfl rfl ?_
        refine ab_iconst (pc2 := 981) (v := 1) dL_law_980 rfl ab_k_iconst_1 ?_
        refine ab_iadd (pc2 := 982) dL_law_981 rfl ?_
        obtain ⟨b229, hf⟩ := ab_guard hf
        refine ab_sld (pc2 := 983) rfl (ab_in_vp b229) dL_law_982 rfl ?_
        refine ab_topI (v := xs (i4 + (1 : Int32)).toNatClampNeg) rfl ?_
        refine ab_aload_nS (pc2 := 984) dL_law_983 rfl rfl ?_
        refine ab_iload (pc2 := 986) dL_law_984 rfl rfl ?_
        refine ab_iconst (pc2 := 987) (v := 2) dL_law_986 rfl ab_k_iconst_2 ?_
        refine ab_iadd (pc2 := 988) dL_law_987 rfl ?_
        obtain ⟨b230, hf⟩ := ab_guard hf
        refine ab_sld (pc2 := 989) rfl (ab_in_vp b230) dL_law_988 rfl ?_
        refine ab_topI (v := xs (i4 + (2 : Int32)).toNatClampNeg) rfl ?_
        refine ab_aload_nS (pc2 := 990) dL_law_989 rfl rfl ?_
        refine ab_iload (pc2 := 992) dL_law_990 rfl rfl ?_
        refine ab_iconst (pc2 := 993) (v := 3) dL_law_992 rfl ab_k_iconst_3 ?_
        refine ab_iadd (pc2 := 994) dL_law_993 rfl ?_
        obtain ⟨b231, hf⟩ := ab_guard hf
        refine ab_sld (pc2 := 995) rfl (ab_in_vp b231) dL_law_994 rfl ?_
        refine ab_topI (v := xs (i4 + (3 : Int32)).toNatClampNeg) rfl ?_
        obtain ⟨q232, hq232, hf⟩ := ab_bind hf
        obtain ⟨w233, ew233, hf⟩ := ab_bind hf
        refine ab_callV (pc2 := 998) (st := [_]) hq232 (T_i2 q232 hq232) (by decide) (m_X12_judge (d := (d + 50)) (T_i2 q232 hq232) ew233) mf_X12_judge tw_443 tw_442 ts_X12_judge (Or.inl (by decide +kernel)) dL_law_995 rfl (by omega) (by omega) (by omega) rfl (Nat.le_of_ble_eq_true rfl) (ab_kPi ?_)
        refine ab_icmp_eq (tgt := 1391) (pc2 := 1001) dL_law_998 (by decide) rfl hf (fun c234 hf => ?_) (fun c234 hf => ?_)
        · refine ab_iinc (pc2 := 1394) (v := _ + 6) (lo2 := [some (.float 0), some (va_rf _), some (va_rf _), some (va_rf _), some (.int _), none, none, none]) dL_law_1391 rfl rfl rfl (Nat.le_of_ble_eq_true rfl) (ab_st1_rf (j := 3) rfl rfl) ?_
          refine ab_goto (tgt := 23) dL_law_1394 (by decide) ?_
          exact ab_weak (ih _ _ _ _ _ _ _ (by omega) (by omega) T_i1 T_i2 T_i3 hf) (ab_leS (ab_leS (ab_leS (ab_leS (ab_leS (ab_leN (ab_leN (ab_leN ab_le0))))))))
        · refine ab_iconst (pc2 := 1002) (v := 0) dL_law_1001 rfl ab_k_iconst_0 ?_
          cases Option.some.inj hf
          exact ab_retI dL_law_1002 (Or.inr ⟨rfl, (Or.inl rfl)⟩) (by omega) (by omega) ⟨rfl, rfl, (Or.inl rfl)⟩
      rcases ab_cas hf with ⟨s235, hf⟩ | ⟨s235, hf⟩
      · refine ab_tswK (tgt := 1003) (off := 963) dL_law_40 s235 (by decide) (by decide) (by decide +kernel) (by decide) ?_
        refine ab_aload_n (x := _) (pc2 := 1004) dL_law_1003 rfl rfl ?_
        obtain ⟨q236, hq236, hf⟩ := ab_bind hf
        obtain ⟨w237, ew237, hf⟩ := ab_bind hf
        refine ab_callV (pc2 := 1007) (st := []) hq236 (T_i1 q236 hq236) (by decide) (m_X11_image (d := (d + 55)) (T_i1 q236 hq236) ew237) mf_X11_image tw_445 tw_444 ts_X11_image (Or.inl (by decide +kernel)) dL_law_1004 rfl (by omega) (by omega) (by omega) rfl (Nat.le_of_ble_eq_true rfl) (ab_kPi ?_)
        refine ab_aload_n (x := _) (pc2 := 1008) dL_law_1007 rfl rfl ?_
        obtain ⟨q238, hq238, hf⟩ := ab_bind hf
        obtain ⟨w239, ew239, hf⟩ := ab_bind hf
        refine ab_callV (pc2 := 1011) (st := [_]) hq238 (T_i2 q238 hq238) (by decide) (m_X12_image (d := (d + 57)) (T_i2 q238 hq238) ew239) mf_X12_image tw_447 tw_446 ts_X12_image (Or.inl (by decide +kernel)) dL_law_1008 rfl (by omega) (by omega) (by omega) rfl (Nat.le_of_ble_eq_true rfl) (ab_kPi ?_)
        refine ab_icmp_eq (tgt := 1391) (pc2 := 1014) dL_law_1011 (by decide) rfl hf (fun c240 hf => ?_) (fun c240 hf => ?_)
        · refine ab_iinc (pc2 := 1394) (v := _ + 6) (lo2 := [some (.float 0), some (va_rf _), some (va_rf _), some (va_rf _), some (.int _), none, none, none]) dL_law_1391 rfl rfl rfl (Nat.le_of_ble_eq_true rfl) (ab_st1_rf (j := 3) rfl rfl) ?_
          refine ab_goto (tgt := 23) dL_law_1394 (by decide) ?_
          exact ab_weak (ih _ _ _ _ _ _ _ (by omega) (by omega) T_i1 T_i2 T_i3 hf) (ab_leS (ab_leS (ab_leS (ab_leS (ab_leS (ab_leN (ab_leN (ab_leN ab_le0))))))))
        · refine ab_iconst (pc2 := 1015) (v := 0) dL_law_1014 rfl ab_k_iconst_0 ?_
          cases Option.some.inj hf
          exact ab_retI dL_law_1015 (Or.inr ⟨rfl, (Or.inl rfl)⟩) (by omega) (by omega) ⟨rfl, rfl, (Or.inl rfl)⟩
      rcases ab_cas hf with ⟨s241, hf⟩ | ⟨s241, hf⟩
      · refine ab_tswK (tgt := 1016) (off := 976) dL_law_40 s241 (by decide) (by decide) (by decide +kernel) (by decide) ?_
        refine ab_aload_n (x := _) (pc2 := 1017) dL_law_1016 rfl rfl ?_
        obtain ⟨q242, hq242, hf⟩ := ab_bind hf
        obtain ⟨w243, ew243, hf⟩ := ab_bind hf
        refine ab_callV (pc2 := 1020) (st := []) hq242 (T_i1 q242 hq242) (by decide) (m_X11_restore (d := (d + 55)) (T_i1 q242 hq242) ew243) mf_X11_restore tw_449 tw_448 ts_X11_restore (Or.inl (by decide +kernel)) dL_law_1017 rfl (by omega) (by omega) (by omega) rfl (Nat.le_of_ble_eq_true rfl) (ab_kPi ?_)
        refine ab_aload_n (x := _) (pc2 := 1021) dL_law_1020 rfl rfl ?_
        obtain ⟨q244, hq244, hf⟩ := ab_bind hf
        obtain ⟨w245, ew245, hf⟩ := ab_bind hf
        refine ab_callV (pc2 := 1024) (st := [_]) hq244 (T_i2 q244 hq244) (by decide) (m_X12_restore (d := (d + 57)) (T_i2 q244 hq244) ew245) mf_X12_restore tw_451 tw_450 ts_X12_restore (Or.inl (by decide +kernel)) dL_law_1021 rfl (by omega) (by omega) (by omega) rfl (Nat.le_of_ble_eq_true rfl) (ab_kPi ?_)
        refine ab_icmp_eq (tgt := 1391) (pc2 := 1027) dL_law_1024 (by decide) rfl hf (fun c246 hf => ?_) (fun c246 hf => ?_)
        · refine ab_iinc (pc2 := 1394) (v := _ + 6) (lo2 := [some (.float 0), some (va_rf _), some (va_rf _), some (va_rf _), some (.int _), none, none, none]) dL_law_1391 rfl rfl rfl (Nat.le_of_ble_eq_true rfl) (ab_st1_rf (j := 3) rfl rfl) ?_
          refine ab_goto (tgt := 23) dL_law_1394 (by decide) ?_
          exact ab_weak (ih _ _ _ _ _ _ _ (by omega) (by omega) T_i1 T_i2 T_i3 hf) (ab_leS (ab_leS (ab_leS (ab_leS (ab_leS (ab_leN (ab_leN (ab_leN ab_le0))))))))
        · refine ab_iconst (pc2 := 1028) (v := 0) dL_law_1027 rfl ab_k_iconst_0 ?_
          cases Option.some.inj hf
          exact ab_retI dL_law_1028 (Or.inr ⟨rfl, (Or.inl rfl)⟩) (by omega) (by omega) ⟨rfl, rfl, (Or.inl rfl)⟩
      rcases ab_cas hf with ⟨s247, hf⟩ | ⟨s247, hf⟩
      · refine ab_tswK (tgt := 1029) (off := 989) dL_law_40 s247 (by decide) (by decide) (by decide +kernel) (by decide) ?_
        refine ab_aload_n (x := _) (pc2 := 1030) dL_law_1029 rfl rfl ?_
        refine ab_aload_nS (pc2 := 1031) dL_law_1030 rfl rfl ?_
        refine ab_iload (pc2 := 1033) dL_law_1031 rfl rfl ?_
        refine ab_iconst (pc2 := 1034) (v := 1) dL_law_1033 rfl ab_k_iconst_1 ?_
        refine ab_iadd (pc2 := 1035) dL_law_1034 rfl ?_
        obtain ⟨b248, hf⟩ := ab_guard hf
        refine ab_sld (pc2 := 1036) rfl (ab_in_vp b248) dL_law_1035 rfl ?_
        refine ab_topI (v := xs (i4 + (1 : Int32)).toNatClampNeg) rfl ?_
        obtain ⟨q249, hq249, hf⟩ := ab_bind hf
        obtain ⟨w250, ew250, hf⟩ := ab_bind hf
        refine ab_callV (pc2 := 1039) (st := []) hq249 (T_i1 q249 hq249) (by decide) (m_X11_count (d := (d + 54)) (T_i1 q249 hq249) ew250) mf_X11_count tw_453 tw_452 ts_X11_count (Or.inl (by decide +kernel)) dL_law_1036 rfl (by omega) (by omega) (by omega) rfl (Nat.le_of_ble_eq_true rfl) (ab_kPi ?_)
        refine ab_aload_n (x := _) (pc2 := 1040) dL_law_1039 rfl rfl ?_
        refine ab_aload_nS (pc2 := 1041) dL_law_1040 rfl rfl ?_
        refine ab_iload (pc2 := 1043) dL_law_1041 rfl rfl ?_
        refine ab_iconst (pc2 := 1044) (v := 1) dL_law_1043 rfl ab_k_iconst_1 ?_
        refine ab_iadd (pc2 := 1045) dL_law_1044 rfl ?_
        obtain ⟨b251, hf⟩ := ab_guard hf
        refine ab_sld (pc2 := 1046) rfl (ab_in_vp b251) dL_law_1045 rfl ?_
        refine ab_topI (v := xs (i4 + (1 : Int32)).toNatClampNeg) rfl ?_
        obtain ⟨q252, hq252, hf⟩ := ab_bind hf
        obtain ⟨w253, ew253, hf⟩ := ab_bind hf
        refine ab_callV (pc2 := 1049) (st := [_]) hq252 (T_i2 q252 hq252) (by decide) (m_X12_count (d := (d + 54)) (T_i2 q252 hq252) ew253) mf_X12_count tw_455 tw_454 ts_X12_count (Or.inl (by decide +kernel)) dL_law_1046 rfl (by omega) (by omega) (by omega) rfl (Nat.le_of_ble_eq_true rfl) (ab_kPi ?_)
        refine ab_icmp_eq (tgt := 1391) (pc2 := 1052) dL_law_1049 (by decide) rfl hf (fun c254 hf => ?_) (fun c254 hf => ?_)
        · refine ab_iinc (pc2 := 1394) (v := _ + 6) (lo2 := [some (.float 0), some (va_rf _), some (va_rf _), some (va_rf _), some (.int _), none, none, none]) dL_law_1391 rfl rfl rfl (Nat.le_of_ble_eq_true rfl) (ab_st1_rf (j := 3) rfl rfl) ?_
          refine ab_goto (tgt := 23) dL_law_1394 (by decide) ?_
          exact ab_weak (ih _ _ _ _ _ _ _ (by omega) (by omega) T_i1 T_i2 T_i3 hf) (ab_leS (ab_leS (ab_leS (ab_leS (ab_leS (ab_leN (ab_leN (ab_leN ab_le0))))))))
        · refine ab_iconst (pc2 := 1053) (v := 0) dL_law_1052 rfl ab_k_iconst_0 ?_
          cases Option.some.inj hf
          exact ab_retI dL_law_1053 (Or.inr ⟨rfl, (Or.inl rfl)⟩) (by omega) (by omega) ⟨rfl, rfl, (Or.inl rfl)⟩
      rcases ab_cas hf with ⟨s255, hf⟩ | ⟨s255, hf⟩
      · refine ab_tswK (tgt := 1054) (off := 1014) dL_law_40 s255 (by decide) (by decide) (by decide +kernel) (by decide) ?_
        refine ab_aload_n (x := _) (pc2 := 1055) dL_law_1054 rfl rfl ?_
        refine ab_aload_nS (pc2 := 1056) dL_law_1055 rfl rfl ?_
        refine ab_iload (pc2 := 1058) dL_law_1056 rfl rfl ?_
        refine ab_iconst (pc2 := 1059) (v := 1) dL_law_1058 rfl ab_k_iconst_1 ?_
        refine ab_iadd (pc2 := 1060) dL_law_1059 rfl ?_
        obtain ⟨b256, hf⟩ := ab_guard hf
        refine ab_sld (pc2 := 1061) rfl (ab_in_vp b256) dL_law_1060 rfl ?_
        refine ab_topI (v := xs (i4 + (1 : Int32)).toNatClampNeg) rfl ?_
        refine ab_aload_nS (pc2 := 1062) dL_law_1061 rfl rfl ?_
        refine ab_iload (pc2 := 1064) dL_law_1062 rfl rfl ?_
        refine ab_iconst (pc2 := 1065) (v := 2) dL_law_1064 rfl ab_k_iconst_2 ?_
        refine ab_iadd (pc2 := 1066) dL_law_1065 rfl ?_
        obtain ⟨b257, hf⟩ := ab_guard hf
        refine ab_sld (pc2 := 1067) rfl (ab_in_vp b257) dL_law_1066 rfl ?_
        refine ab_topI (v := xs (i4 + (2 : Int32)).toNatClampNeg) rfl ?_
        refine ab_aload_nS (pc2 := 1068) dL_law_1067 rfl rfl ?_
        refine ab_iload (pc2 := 1070) dL_law_1068 rfl rfl ?_
        refine ab_iconst (pc2 := 1071) (v := 3) dL_law_1070 rfl ab_k_iconst_3 ?_
        refine ab_iadd (pc2 := 1072) dL_law_1071 rfl ?_
        obtain ⟨b258, hf⟩ := ab_guard hf
        refine ab_sld (pc2 := 1073) rfl (ab_in_vp b258) dL_law_1072 rfl ?_
        refine ab_topI (v := xs (i4 + (3 : Int32)).toNatClampNeg) rfl ?_
        obtain ⟨q259, hq259, hf⟩ := ab_bind hf
        obtain ⟨w260, ew260, hf⟩ := ab_bind hf
        refine ab_callV (pc2 := 1076) (st := []) hq259 (T_i1 q259 hq259) (by decide) (m_X11_keep (d := (d + 56)) (T_i1 q259 hq259) ew260) mf_X11_keep tw_457 tw_456 ts_X11_keep (Or.inl (by decide +kernel)) dL_law_1073 rfl (by omega) (by omega) (by omega) rfl (Nat.le_of_ble_eq_true rfl) (ab_kPi ?_)
        refine ab_aload_n (x := _) (pc2 := 1077) dL_law_1076 rfl rfl ?_
        refine ab_aload_nS (pc2 := 1078) dL_law_1077 rfl rfl ?_
        refine ab_iload (pc2 := 1080) dL_law_1078 rfl rfl ?_
        refine ab_iconst (pc2 := 1081) (v := 1) dL_law_1080 rfl ab_k_iconst_1 ?_
        refine ab_iadd (pc2 := 1082) dL_law_1081 rfl ?_
        obtain ⟨b261, hf⟩ := ab_guard hf
        refine ab_sld (pc2 := 1083) rfl (ab_in_vp b261) dL_law_1082 rfl ?_
        refine ab_topI (v := xs (i4 + (1 : Int32)).toNatClampNeg) rfl ?_
        refine ab_aload_nS (pc2 := 1084) dL_law_1083 rfl rfl ?_
        refine ab_iload (pc2 := 1086) dL_law_1084 rfl rfl ?_
        refine ab_iconst (pc2 := 1087) (v := 2) dL_law_1086 rfl ab_k_iconst_2 ?_
        refine ab_iadd (pc2 := 1088) dL_law_1087 rfl ?_
        obtain ⟨b262, hf⟩ := ab_guard hf
        refine ab_sld (pc2 := 1089) rfl (ab_in_vp b262) dL_law_1088 rfl ?_
        refine ab_topI (v := xs (i4 + (2 : Int32)).toNatClampNeg) rfl ?_
        refine ab_aload_nS (pc2 := 1090) dL_law_1089 rfl rfl ?_
        refine ab_iload (pc2 := 1092) dL_law_1090 rfl rfl ?_
        refine ab_iconst (pc2 := 1093) (v := 3) dL_law_1092 rfl ab_k_iconst_3 ?_
        refine ab_iadd (pc2 := 1094) dL_law_1093 rfl ?_
        obtain ⟨b263, hf⟩ := ab_guard hf
        refine ab_sld (pc2 := 1095) rfl (ab_in_vp b263) dL_law_1094 rfl ?_
        refine ab_topI (v := xs (i4 + (3 : Int32)).toNatClampNeg) rfl ?_
        obtain ⟨q264, hq264, hf⟩ := ab_bind hf
        obtain ⟨w265, ew265, hf⟩ := ab_bind hf
        refine ab_callV (pc2 := 1098) (st := [_]) hq264 (T_i2 q264 hq264) (by decide) (m_X12_keep (d := (d + 55)) (T_i2 q264 hq264) ew265) mf_X12_keep tw_459 tw_458 ts_X12_keep (Or.inl (by decide +kernel)) dL_law_1095 rfl (by omega) (by omega) (by omega) rfl (Nat.le_of_ble_eq_true rfl) (ab_kPi ?_)
        refine ab_icmp_eq (tgt := 1391) (pc2 := 1101) dL_law_1098 (by decide) rfl hf (fun c266 hf => ?_) (fun c266 hf => ?_)
        · refine ab_iinc (pc2 := 1394) (v := _ + 6) (lo2 := [some (.float 0), some (va_rf _), some (va_rf _), some (va_rf _), some (.int _), none, none, none]) dL_law_1391 rfl rfl rfl (Nat.le_of_ble_eq_true rfl) (ab_st1_rf (j := 3) rfl rfl) ?_
          refine ab_goto (tgt := 23) dL_law_1394 (by decide) ?_
          exact ab_weak (ih _ _ _ _ _ _ _ (by omega) (by omega) T_i1 T_i2 T_i3 hf) (ab_leS (ab_leS (ab_leS (ab_leS (ab_leS (ab_leN (ab_leN (ab_leN ab_le0))))))))
        · refine ab_iconst (pc2 := 1102) (v := 0) dL_law_1101 rfl ab_k_iconst_0 ?_
          cases Option.some.inj hf
          exact ab_retI dL_law_1102 (Or.inr ⟨rfl, (Or.inl rfl)⟩) (by omega) (by omega) ⟨rfl, rfl, (Or.inl rfl)⟩
      rcases ab_cas hf with ⟨s267, hf⟩ | ⟨s267, hf⟩
      · refine ab_tswK (tgt := 1103) (off := 1063) dL_law_40 s267 (by decide) (by decide) (by decide +kernel) (by decide) ?_
        refine ab_aload_n (x := _) (pc2 := 1104) dL_law_1103 rfl rfl ?_
        refine ab_aload_nS (pc2 := 1105) dL_law_1104 rfl rfl ?_
        refine ab_iload (pc2 := 1107) dL_law_1105 rfl rfl ?_
        refine ab_iconst (pc2 := 1108) (v := 1) dL_law_1107 rfl ab_k_iconst_1 ?_
        refine ab_iadd (pc2 := 1109) dL_law_1108 rfl ?_
        obtain ⟨b268, hf⟩ := ab_guard hf
        refine ab_sld (pc2 := 1110) rfl (ab_in_vp b268) dL_law_1109 rfl ?_
        refine ab_topI (v := xs (i4 + (1 : Int32)).toNatClampNeg) rfl ?_
        refine ab_aload_nS (pc2 := 1111) dL_law_1110 rfl rfl ?_
        refine ab_iload (pc2 := 1113) dL_law_1111 rfl rfl ?_
        refine ab_iconst (pc2 := 1114) (v := 2) dL_law_1113 rfl ab_k_iconst_2 ?_
        refine ab_iadd (pc2 := 1115) dL_law_1114 rfl ?_
        obtain ⟨b269, hf⟩ := ab_guard hf
        refine ab_sld (pc2 := 1116) rfl (ab_in_vp b269) dL_law_1115 rfl ?_
        refine ab_topI (v := xs (i4 + (2 : Int32)).toNatClampNeg) rfl ?_
        refine ab_aload_nS (pc2 := 1117) dL_law_1116 rfl rfl ?_
        refine ab_iload (pc2 := 1119) dL_law_1117 rfl rfl ?_
        refine ab_iconst (pc2 := 1120) (v := 3) dL_law_1119 rfl ab_k_iconst_3 ?_
        refine ab_iadd (pc2 := 1121) dL_law_1120 rfl ?_
        obtain ⟨b270, hf⟩ := ab_guard hf
        refine ab_sld (pc2 := 1122) rfl (ab_in_vp b270) dL_law_1121 rfl ?_
        refine ab_topI (v := xs (i4 + (3 : Int32)).toNatClampNeg) rfl ?_
        obtain ⟨q271, hq271, hf⟩ := ab_bind hf
        obtain ⟨w272, ew272, hf⟩ := ab_bind hf
        refine ab_callV (pc2 := 1125) (st := []) hq271 (T_i1 q271 hq271) (by decide) (m_X11_row (d := (d + 56)) (T_i1 q271 hq271) ew272) mf_X11_row tw_461 tw_460 ts_X11_row (Or.inl (by decide +kernel)) dL_law_1122 rfl (by omega) (by omega) (by omega) rfl (Nat.le_of_ble_eq_true rfl) (ab_kPi ?_)
        refine ab_aload_n (x := _) (pc2 := 1126) dL_law_1125 rfl rfl ?_
        refine ab_aload_nS (pc2 := 1127) dL_law_1126 rfl rfl ?_
        refine ab_iload (pc2 := 1129) dL_law_1127 rfl rfl ?_
        refine ab_iconst (pc2 := 1130) (v := 1) dL_law_1129 rfl ab_k_iconst_1 ?_
        refine ab_iadd (pc2 := 1131) dL_law_1130 rfl ?_
        obtain ⟨b273, hf⟩ := ab_guard hf
        refine ab_sld (pc2 := 1132) rfl (ab_in_vp b273) dL_law_1131 rfl ?_
        refine ab_topI (v := xs (i4 + (1 : Int32)).toNatClampNeg) rfl ?_
        refine ab_aload_nS (pc2 := 1133) dL_law_1132 rfl rfl ?_
        refine ab_iload (pc2 := 1135) dL_law_1133 rfl rfl ?_
        refine ab_iconst (pc2 := 1136) (v := 2) dL_law_1135 rfl ab_k_iconst_2 ?_
        refine ab_iadd (pc2 := 1137) dL_law_1136 rfl ?_
        obtain ⟨b274, hf⟩ := ab_guard hf
        refine ab_sld (pc2 := 1138) rfl (ab_in_vp b274) dL_law_1137 rfl ?_
        refine ab_topI (v := xs (i4 + (2 : Int32)).toNatClampNeg) rfl ?_
        refine ab_aload_nS (pc2 := 1139) dL_law_1138 rfl rfl ?_
        refine ab_iload (pc2 := 1141) dL_law_1139 rfl rfl ?_
        refine ab_iconst (pc2 := 1142) (v := 3) dL_law_1141 rfl ab_k_iconst_3 ?_
        refine ab_iadd (pc2 := 1143) dL_law_1142 rfl ?_
        obtain ⟨b275, hf⟩ := ab_guard hf
        refine ab_sld (pc2 := 1144) rfl (ab_in_vp b275) dL_law_1143 rfl ?_
        refine ab_topI (v := xs (i4 + (3 : Int32)).toNatClampNeg) rfl ?_
        obtain ⟨q276, hq276, hf⟩ := ab_bind hf
        obtain ⟨w277, ew277, hf⟩ := ab_bind hf
        refine ab_callV (pc2 := 1147) (st := [_]) hq276 (T_i2 q276 hq276) (by decide) (m_X12_row (d := (d + 55)) (T_i2 q276 hq276) ew277) mf_X12_row tw_463 tw_462 ts_X12_row (Or.inl (by decide +kernel)) dL_law_1144 rfl (by omega) (by omega) (by omega) rfl (Nat.le_of_ble_eq_true rfl) (ab_kPi ?_)
        refine ab_icmp_eq (tgt := 1391) (pc2 := 1150) dL_law_1147 (by decide) rfl hf (fun c278 hf => ?_) (fun c278 hf => ?_)
        · refine ab_iinc (pc2 := 1394) (v := _ + 6) (lo2 := [some (.float 0), some (va_rf _), some (va_rf _), some (va_rf _), some (.int _), none, none, none]) dL_law_1391 rfl rfl rfl (Nat.le_of_ble_eq_true rfl) (ab_st1_rf (j := 3) rfl rfl) ?_
          refine ab_goto (tgt := 23) dL_law_1394 (by decide) ?_
          exact ab_weak (ih _ _ _ _ _ _ _ (by omega) (by omega) T_i1 T_i2 T_i3 hf) (ab_leS (ab_leS (ab_leS (ab_leS (ab_leS (ab_leN (ab_leN (ab_leN ab_le0))))))))
        · refine ab_iconst (pc2 := 1151) (v := 0) dL_law_1150 rfl ab_k_iconst_0 ?_
          cases Option.some.inj hf
          exact ab_retI dL_law_1151 (Or.inr ⟨rfl, (Or.inl rfl)⟩) (by omega) (by omega) ⟨rfl, rfl, (Or.inl rfl)⟩
      rcases ab_cas hf with ⟨s279, hf⟩ | ⟨s279, hf⟩
      · refine ab_tswK (tgt := 1152) (off := 1112) dL_law_40 s279 (by decide) (by decide) (by decide +kernel) (by decide) ?_
        refine ab_aload_n (x := _) (pc2 := 1153) dL_law_1152 rfl rfl ?_
        refine ab_aload_nS (pc2 := 1154) dL_law_1153 rfl rfl ?_
        refine ab_iload (pc2 := 1156) dL_law_1154 rfl rfl ?_
        refine ab_iconst (pc2 := 1157) (v := 1) dL_law_1156 rfl ab_k_iconst_1 ?_
        refine ab_iadd (pc2 := 1158) dL_law_1157 rfl ?_
        obtain ⟨b280, hf⟩ := ab_guard hf
        refine ab_sld (pc2 := 1159) rfl (ab_in_vp b280) dL_law_1158 rfl ?_
        refine ab_topI (v := xs (i4 + (1 : Int32)).toNatClampNeg) rfl ?_
        refine ab_aload_nS (pc2 := 1160) dL_law_1159 rfl rfl ?_
        refine ab_iload (pc2 := 1162) dL_law_1160 rfl rfl ?_
        refine ab_iconst (pc2 := 1163) (v := 2) dL_law_1162 rfl ab_k_iconst_2 ?_
        refine ab_iadd (pc2 := 1164) dL_law_1163 rfl ?_
        obtain ⟨b281, hf⟩ := ab_guard hf
        refine ab_sld (pc2 := 1165) rfl (ab_in_vp b281) dL_law_1164 rfl ?_
        refine ab_topI (v := xs (i4 + (2 : Int32)).toNatClampNeg) rfl ?_
        refine ab_aload_nS (pc2 := 1166) dL_law_1165 rfl rfl ?_
        refine ab_iload (pc2 := 1168) dL_law_1166 rfl rfl ?_
        refine ab_iconst (pc2 := 1169) (v := 3) dL_law_1168 rfl ab_k_iconst_3 ?_
        refine ab_iadd (pc2 := 1170) dL_law_1169 rfl ?_
        obtain ⟨b282, hf⟩ := ab_guard hf
        refine ab_sld (pc2 := 1171) rfl (ab_in_vp b282) dL_law_1170 rfl ?_
        refine ab_topI (v := xs (i4 + (3 : Int32)).toNatClampNeg) rfl ?_
        obtain ⟨q283, hq283, hf⟩ := ab_bind hf
        obtain ⟨w284, ew284, hf⟩ := ab_bind hf
        refine ab_callV (pc2 := 1174) (st := []) hq283 (T_i1 q283 hq283) (by decide) (m_X11_put (d := (d + 55)) (T_i1 q283 hq283) ew284) mf_X11_put tw_465 tw_464 ts_X11_put (Or.inl (by decide +kernel)) dL_law_1171 rfl (by omega) (by omega) (by omega) rfl (Nat.le_of_ble_eq_true rfl) (ab_kPi ?_)
        refine ab_aload_n (x := _) (pc2 := 1175) dL_law_1174 rfl rfl ?_
        refine ab_aload_nS (pc2 := 1176) dL_law_1175 rfl rfl ?_
        refine ab_iload (pc2 := 1178) dL_law_1176 rfl rfl ?_
        refine ab_iconst (pc2 := 1179) (v := 1) dL_law_1178 rfl ab_k_iconst_1 ?_
        refine ab_iadd (pc2 := 1180) dL_law_1179 rfl ?_
        obtain ⟨b285, hf⟩ := ab_guard hf
        refine ab_sld (pc2 := 1181) rfl (ab_in_vp b285) dL_law_1180 rfl ?_
        refine ab_topI (v := xs (i4 + (1 : Int32)).toNatClampNeg) rfl ?_
        refine ab_aload_nS (pc2 := 1182) dL_law_1181 rfl rfl ?_
        refine ab_iload (pc2 := 1184) dL_law_1182 rfl rfl ?_
        refine ab_iconst (pc2 := 1185) (v := 2) dL_law_1184 rfl ab_k_iconst_2 ?_
        refine ab_iadd (pc2 := 1186) dL_law_1185 rfl ?_
        obtain ⟨b286, hf⟩ := ab_guard hf
        refine ab_sld (pc2 := 1187) rfl (ab_in_vp b286) dL_law_1186 rfl ?_
        refine ab_topI (v := xs (i4 + (2 : Int32)).toNatClampNeg) rfl ?_
        refine ab_aload_nS (pc2 := 1188) dL_law_1187 rfl rfl ?_
        refine ab_iload (pc2 := 1190) dL_law_1188 rfl rfl ?_
        refine ab_iconst (pc2 := 1191) (v := 3) dL_law_1190 rfl ab_k_iconst_3 ?_
        refine ab_iadd (pc2 := 1192) dL_law_1191 rfl ?_
        obtain ⟨b287, hf⟩ := ab_guard hf
        refine ab_sld (pc2 := 1193) rfl (ab_in_vp b287) dL_law_1192 rfl ?_
        refine ab_topI (v := xs (i4 + (3 : Int32)).toNatClampNeg) rfl ?_
        obtain ⟨q288, hq288, hf⟩ := ab_bind hf
        obtain ⟨w289, ew289, hf⟩ := ab_bind hf
        refine ab_callV (pc2 := 1196) (st := [_]) hq288 (T_i2 q288 hq288) (by decide) (m_X12_put (d := (d + 54)) (T_i2 q288 hq288) ew289) mf_X12_put tw_467 tw_466 ts_X12_put (Or.inl (by decide +kernel)) dL_law_1193 rfl (by omega) (by omega) (by omega) rfl (Nat.le_of_ble_eq_true rfl) (ab_kPi ?_)
        refine ab_icmp_eq (tgt := 1391) (pc2 := 1199) dL_law_1196 (by decide) rfl hf (fun c290 hf => ?_) (fun c290 hf => ?_)
        · refine ab_iinc (pc2 := 1394) (v := _ + 6) (lo2 := [some (.float 0), some (va_rf _), some (va_rf _), some (va_rf _), some (.int _), none, none, none]) dL_law_1391 rfl rfl rfl (Nat.le_of_ble_eq_true rfl) (ab_st1_rf (j := 3) rfl rfl) ?_
          refine ab_goto (tgt := 23) dL_law_1394 (by decide) ?_
          exact ab_weak (ih _ _ _ _ _ _ _ (by omega) (by omega) T_i1 T_i2 T_i3 hf) (ab_leS (ab_leS (ab_leS (ab_leS (ab_leS (ab_leN (ab_leN (ab_leN ab_le0))))))))
        · refine ab_iconst (pc2 := 1200) (v := 0) dL_law_1199 rfl ab_k_iconst_0 ?_
          cases Option.some.inj hf
          exact ab_retI dL_law_1200 (Or.inr ⟨rfl, (Or.inl rfl)⟩) (by omega) (by omega) ⟨rfl, rfl, (Or.inl rfl)⟩
      rcases ab_cas hf with ⟨s291, hf⟩ | ⟨s291, hf⟩
      · refine ab_tswK (tgt := 1201) (off := 1161) dL_law_40 s291 (by decide) (by decide) (by decide +kernel) (by decide) ?_
        refine ab_aload_n (x := _) (pc2 := 1202) dL_law_1201 rfl rfl ?_
        refine ab_aload_nS (pc2 := 1203) dL_law_1202 rfl rfl ?_
        refine ab_iload (pc2 := 1205) dL_law_1203 rfl rfl ?_
        refine ab_iconst (pc2 := 1206) (v := 1) dL_law_1205 rfl ab_k_iconst_1 ?_
        refine ab_iadd (pc2 := 1207) dL_law_1206 rfl ?_
        obtain ⟨b292, hf⟩ := ab_guard hf
        refine ab_sld (pc2 := 1208) rfl (ab_in_vp b292) dL_law_1207 rfl ?_
        refine ab_topI (v := xs (i4 + (1 : Int32)).toNatClampNeg) rfl ?_
        refine ab_aload_nS (pc2 := 1209) dL_law_1208 rfl rfl ?_
        refine ab_iload (pc2 := 1211) dL_law_1209 rfl rfl ?_
        refine ab_iconst (pc2 := 1212) (v := 2) dL_law_1211 rfl ab_k_iconst_2 ?_
        refine ab_iadd (pc2 := 1213) dL_law_1212 rfl ?_
        obtain ⟨b293, hf⟩ := ab_guard hf
        refine ab_sld (pc2 := 1214) rfl (ab_in_vp b293) dL_law_1213 rfl ?_
        refine ab_topI (v := xs (i4 + (2 : Int32)).toNatClampNeg) rfl ?_
        refine ab_aload_n (x := _) (pc2 := 1215) dL_law_1214 rfl rfl ?_
        obtain ⟨w294, ew294, hf⟩ := ab_bind hf
        refine ab_callSW (pc2 := 1218) (st := []) rfl (m_L_element (d := (d + 49)) T_i1 T_i3 ew294) mf_L_element tw_468 tw_469 dL_law_1215 rfl (by omega) (by omega) (by omega) rfl (Nat.le_of_ble_eq_true rfl) (ab_kPi ?_)
        refine ab_istore (pc2 := 1220) (lo2 := [some (.float 0), some (va_rf _), some (va_rf _), some (va_rf _), some (.int _), some (.int _), none, none]) dL_law_1218 rfl (Nat.le_of_ble_eq_true rfl) rfl ?_
        refine ab_aload_n (x := _) (pc2 := 1221) dL_law_1220 rfl rfl ?_
        refine ab_aload_nS (pc2 := 1222) dL_law_1221 rfl rfl ?_
        refine ab_iload (pc2 := 1224) dL_law_1222 rfl rfl ?_
        refine ab_iconst (pc2 := 1225) (v := 1) dL_law_1224 rfl ab_k_iconst_1 ?_
        refine ab_iadd (pc2 := 1226) dL_law_1225 rfl ?_
        obtain ⟨b295, hf⟩ := ab_guard hf
        refine ab_sld (pc2 := 1227) rfl (ab_in_vp b295) dL_law_1226 rfl ?_
        refine ab_topI (v := xs (i4 + (1 : Int32)).toNatClampNeg) rfl ?_
        refine ab_aload_nS (pc2 := 1228) dL_law_1227 rfl rfl ?_
        refine ab_iload (pc2 := 1230) dL_law_1228 rfl rfl ?_
        refine ab_iconst (pc2 := 1231) (v := 2) dL_law_1230 rfl ab_k_iconst_2 ?_
        refine ab_iadd (pc2 := 1232) dL_law_1231 rfl ?_
        obtain ⟨b296, hf⟩ := ab_guard hf
        refine ab_sld (pc2 := 1233) rfl (ab_in_vp b296) dL_law_1232 rfl ?_
        refine ab_topI (v := xs (i4 + (2 : Int32)).toNatClampNeg) rfl ?_
        obtain ⟨q297, hq297, hf⟩ := ab_bind hf
        obtain ⟨w298, ew298, hf⟩ := ab_bind hf
        refine ab_callV (pc2 := 1236) (st := []) hq297 (T_i2 q297 hq297) (by decide) (m_X12_element (d := (d + 55)) (T_i2 q297 hq297) ew298) mf_X12_element tw_471 tw_470 ts_X12_element (Or.inl (by decide +kernel)) dL_law_1233 rfl (by omega) (by omega) (by omega) rfl (Nat.le_of_ble_eq_true rfl) (ab_kPl ?_)
        refine ab_lstore (pc2 := 1238) (lo2 := [some (.float 0), some (va_rf _), some (va_rf _), some (va_rf _), some (.int _), some (.int _), some (.long _), none]) dL_law_1236 rfl (Nat.le_of_ble_eq_true rfl) rfl ?_
        refine ab_aload_n (x := _) (pc2 := 1239) dL_law_1238 rfl rfl ?_
        obtain ⟨w299, ew299, hf⟩ := ab_bind hf
        refine ab_callV (pc2 := 1242) (st := []) hq297 (T_i2 q297 hq297) (by decide) (m_X12_thrown (d := (d + 57)) (T_i2 q297 hq297) ew299) mf_X12_thrown tw_473 tw_472 ts_X12_thrown (Or.inl (by decide +kernel)) dL_law_1239 rfl (by omega) (by omega) (by omega) rfl (Nat.le_of_ble_eq_true rfl) (ab_kPi ?_)
        refine ab_iload (pc2 := 1244) dL_law_1242 rfl rfl ?_
        refine ab_icmp_eq (tgt := 1249) (pc2 := 1247) dL_law_1244 (by decide) rfl hf (fun c300 hf => ?_) (fun c300 hf => ?_)
        · refine ab_iload (pc2 := 1251) dL_law_1249 rfl rfl ?_
          refine ab_if_ne (tgt := 1265) (pc2 := 1254) dL_law_1251 (by decide) rfl hf (fun c301 hf => ?_) (fun c301 hf => ?_)
          · refine ab_goto (tgt := 1391) dL_law_1265 (by decide) ?_
            refine ab_iinc (pc2 := 1394) (v := _ + 6) (lo2 := [some (.float 0), some (va_rf _), some (va_rf _), some (va_rf _), some (.int _), some (.int _), some (.long _), none]) dL_law_1391 rfl rfl rfl (Nat.le_of_ble_eq_true rfl) (ab_st1_rf (j := 3) rfl rfl) ?_
            refine ab_goto (tgt := 23) dL_law_1394 (by decide) ?_
            exact ab_weak (ih _ _ _ _ _ _ _ (by omega) (by omega) T_i1 T_i2 T_i3 hf) (ab_leS (ab_leS (ab_leS (ab_leS (ab_leS (ab_leN (ab_leN (ab_leN ab_le0))))))))
          · refine ab_aload_n (x := _) (pc2 := 1255) dL_law_1254 rfl rfl ?_
            refine ab_iconst (pc2 := 1256) (v := 0) dL_law_1255 rfl ab_k_iconst_0 ?_
            obtain ⟨q302, hq302, hf⟩ := ab_bind hf
            obtain ⟨b303, hf⟩ := ab_guard hf
            refine ab_lald (pc2 := 1257) hq302 (T_i3 q302 hq302) (ab_in_vp b303) dL_law_1256 rfl ?_
            refine ab_lload (pc2 := 1259) dL_law_1257 rfl rfl ?_
            refine ab_lcmp (pc2 := 1260) dL_law_1259 rfl ?_
            refine ab_if_eq (tgt := 1265) (pc2 := 1263) dL_law_1260 (by decide) rfl hf (fun c304 hf => ?_) (fun c304 hf => ?_)
            · refine ab_goto (tgt := 1391) dL_law_1265 (by decide) ?_
              refine ab_iinc (pc2 := 1394) (v := _ + 6) (lo2 := [some (.float 0), some (va_rf _), some (va_rf _), some (va_rf _), some (.int _), some (.int _), some (.long _), none]) dL_law_1391 rfl rfl rfl (Nat.le_of_ble_eq_true rfl) (ab_st1_rf (j := 3) rfl rfl) ?_
              refine ab_goto (tgt := 23) dL_law_1394 (by decide) ?_
              exact ab_weak (ih _ _ _ _ _ _ _ (by omega) (by omega) T_i1 T_i2 T_i3 hf) (ab_leS (ab_leS (ab_leS (ab_leS (ab_leS (ab_leN (ab_leN (ab_leN ab_le0))))))))
            · refine ab_iconst (pc2 := 1264) (v := 0) dL_law_1263 rfl ab_k_iconst_0 ?_
              cases Option.some.inj hf
              exact ab_retI dL_law_1264 (Or.inr ⟨rfl, (Or.inl rfl)⟩) (by omega) (by omega) ⟨rfl, rfl, (Or.inl rfl)⟩
        · refine ab_iconst (pc2 := 1248) (v := 0) dL_law_1247 rfl ab_k_iconst_0 ?_
          cases Option.some.inj hf
          exact ab_retI dL_law_1248 (Or.inr ⟨rfl, (Or.inl rfl)⟩) (by omega) (by omega) ⟨rfl, rfl, (Or.inl rfl)⟩
      rcases ab_cas hf with ⟨s305, hf⟩ | ⟨s305, hf⟩
      · refine ab_tswK (tgt := 1268) (off := 1228) dL_law_40 s305 (by decide) (by decide) (by decide +kernel) (by decide) ?_
        refine ab_aload_n (x := _) (pc2 := 1269) dL_law_1268 rfl rfl ?_
        refine ab_aload_nS (pc2 := 1270) dL_law_1269 rfl rfl ?_
        refine ab_iload (pc2 := 1272) dL_law_1270 rfl rfl ?_
        refine ab_iconst (pc2 := 1273) (v := 1) dL_law_1272 rfl ab_k_iconst_1 ?_
        refine ab_iadd (pc2 := 1274) dL_law_1273 rfl ?_
        obtain ⟨b306, hf⟩ := ab_guard hf
        refine ab_sld (pc2 := 1275) rfl (ab_in_vp b306) dL_law_1274 rfl ?_
        refine ab_topI (v := xs (i4 + (1 : Int32)).toNatClampNeg) rfl ?_
        refine ab_aload_nS (pc2 := 1276) dL_law_1275 rfl rfl ?_
        refine ab_iload (pc2 := 1278) dL_law_1276 rfl rfl ?_
        refine ab_iconst (pc2 := 1279) (v := 2) dL_law_1278 rfl ab_k_iconst_2 ?_
        refine ab_iadd (pc2 := 1280) dL_law_1279 rfl ?_
        obtain ⟨b307, hf⟩ := ab_guard hf
        refine ab_sld (pc2 := 1281) rfl (ab_in_vp b307) dL_law_1280 rfl ?_
        refine ab_topI (v := xs (i4 + (2 : Int32)).toNatClampNeg) rfl ?_
        refine ab_aload_nS (pc2 := 1282) dL_law_1281 rfl rfl ?_
        refine ab_iload (pc2 := 1284) dL_law_1282 rfl rfl ?_
        refine ab_iconst (pc2 := 1285) (v := 3) dL_law_1284 rfl ab_k_iconst_3 ?_
        refine ab_iadd (pc2 := 1286) dL_law_1285 rfl ?_
        obtain ⟨b308, hf⟩ := ab_guard hf
        refine ab_sld (pc2 := 1287) rfl (ab_in_vp b308) dL_law_1286 rfl ?_
        refine ab_topI (v := xs (i4 + (3 : Int32)).toNatClampNeg) rfl ?_
        refine ab_aload_nS (pc2 := 1288) dL_law_1287 rfl rfl ?_
        refine ab_iload (pc2 := 1290) dL_law_1288 rfl rfl ?_
        refine ab_iconst (pc2 := 1291) (v := 4) dL_law_1290 rfl ab_k_iconst_4 ?_
        refine ab_iadd (pc2 := 1292) dL_law_1291 rfl ?_
        obtain ⟨b309, hf⟩ := ab_guard hf
        refine ab_sld (pc2 := 1293) rfl (ab_in_vp b309) dL_law_1292 rfl ?_
        refine ab_topI (v := xs (i4 + (4 : Int32)).toNatClampNeg) rfl ?_
        refine ab_aload_nS (pc2 := 1294) dL_law_1293 rfl rfl ?_
        refine ab_iload (pc2 := 1296) dL_law_1294 rfl rfl ?_
        refine ab_iconst (pc2 := 1297) (v := 5) dL_law_1296 rfl ab_k_iconst_5 ?_
        refine ab_iadd (pc2 := 1298) dL_law_1297 rfl ?_
        obtain ⟨b310, hf⟩ := ab_guard hf
        refine ab_sld (pc2 := 1299) rfl (ab_in_vp b310) dL_law_1298 rfl ?_
        refine ab_topI (v := xs (i4 + (5 : Int32)).toNatClampNeg) rfl ?_
        obtain ⟨q311, hq311, hf⟩ := ab_bind hf
        obtain ⟨w312, ew312, hf⟩ := ab_bind hf
        refine ab_callV (pc2 := 1302) (st := []) hq311 (T_i1 q311 hq311) (by decide) (m_X11_copy (d := (d + 55)) (T_i1 q311 hq311) ew312) mf_X11_copy tw_475 tw_474 ts_X11_copy (Or.inl (by decide +kernel)) dL_law_1299 rfl (by omega) (by omega) (by omega) rfl (Nat.le_of_ble_eq_true rfl) (ab_kPi ?_)
        refine ab_aload_n (x := _) (pc2 := 1303) dL_law_1302 rfl rfl ?_
        refine ab_aload_nS (pc2 := 1304) dL_law_1303 rfl rfl ?_
        refine ab_iload (pc2 := 1306) dL_law_1304 rfl rfl ?_
        refine ab_iconst (pc2 := 1307) (v := 1) dL_law_1306 rfl ab_k_iconst_1 ?_
        refine ab_iadd (pc2 := 1308) dL_law_1307 rfl ?_
        obtain ⟨b313, hf⟩ := ab_guard hf
        refine ab_sld (pc2 := 1309) rfl (ab_in_vp b313) dL_law_1308 rfl ?_
        refine ab_topI (v := xs (i4 + (1 : Int32)).toNatClampNeg) rfl ?_
        refine ab_aload_nS (pc2 := 1310) dL_law_1309 rfl rfl ?_
        refine ab_iload (pc2 := 1312) dL_law_1310 rfl rfl ?_
        refine ab_iconst (pc2 := 1313) (v := 2) dL_law_1312 rfl ab_k_iconst_2 ?_
        refine ab_iadd (pc2 := 1314) dL_law_1313 rfl ?_
        obtain ⟨b314, hf⟩ := ab_guard hf
        refine ab_sld (pc2 := 1315) rfl (ab_in_vp b314) dL_law_1314 rfl ?_
        refine ab_topI (v := xs (i4 + (2 : Int32)).toNatClampNeg) rfl ?_
        refine ab_aload_nS (pc2 := 1316) dL_law_1315 rfl rfl ?_
        refine ab_iload (pc2 := 1318) dL_law_1316 rfl rfl ?_
        refine ab_iconst (pc2 := 1319) (v := 3) dL_law_1318 rfl ab_k_iconst_3 ?_
        refine ab_iadd (pc2 := 1320) dL_law_1319 rfl ?_
        obtain ⟨b315, hf⟩ := ab_guard hf
        refine ab_sld (pc2 := 1321) rfl (ab_in_vp b315) dL_law_1320 rfl ?_
        refine ab_topI (v := xs (i4 + (3 : Int32)).toNatClampNeg) rfl ?_
        refine ab_aload_nS (pc2 := 1322) dL_law_1321 rfl rfl ?_
        refine ab_iload (pc2 := 1324) dL_law_1322 rfl rfl ?_
        refine ab_iconst (pc2 := 1325) (v := 4) dL_law_1324 rfl ab_k_iconst_4 ?_
        refine ab_iadd (pc2 := 1326) dL_law_1325 rfl ?_
        obtain ⟨b316, hf⟩ := ab_guard hf
        refine ab_sld (pc2 := 1327) rfl (ab_in_vp b316) dL_law_1326 rfl ?_
        refine ab_topI (v := xs (i4 + (4 : Int32)).toNatClampNeg) rfl ?_
        refine ab_aload_nS (pc2 := 1328) dL_law_1327 rfl rfl ?_
        refine ab_iload (pc2 := 1330) dL_law_1328 rfl rfl ?_
        refine ab_iconst (pc2 := 1331) (v := 5) dL_law_1330 rfl ab_k_iconst_5 ?_
        refine ab_iadd (pc2 := 1332) dL_law_1331 rfl ?_
        obtain ⟨b317, hf⟩ := ab_guard hf
        refine ab_sld (pc2 := 1333) rfl (ab_in_vp b317) dL_law_1332 rfl ?_
        refine ab_topI (v := xs (i4 + (5 : Int32)).toNatClampNeg) rfl ?_
        obtain ⟨q318, hq318, hf⟩ := ab_bind hf
        obtain ⟨w319, ew319, hf⟩ := ab_bind hf
        refine ab_callV (pc2 := 1336) (st := [_]) hq318 (T_i2 q318 hq318) (by decide) (m_X12_copy (d := (d + 55)) (T_i2 q318 hq318) ew319) mf_X12_copy tw_477 tw_476 ts_X12_copy (Or.inl (by decide +kernel)) dL_law_1333 rfl (by omega) (by omega) (by omega) rfl (Nat.le_of_ble_eq_true rfl) (ab_kPi ?_)
        refine ab_icmp_eq (tgt := 1391) (pc2 := 1339) dL_law_1336 (by decide) rfl hf (fun c320 hf => ?_) (fun c320 hf => ?_)
        · refine ab_iinc (pc2 := 1394) (v := _ + 6) (lo2 := [some (.float 0), some (va_rf _), some (va_rf _), some (va_rf _), some (.int _), none, none, none]) dL_law_1391 rfl rfl rfl (Nat.le_of_ble_eq_true rfl) (ab_st1_rf (j := 3) rfl rfl) ?_
          refine ab_goto (tgt := 23) dL_law_1394 (by decide) ?_
          exact ab_weak (ih _ _ _ _ _ _ _ (by omega) (by omega) T_i1 T_i2 T_i3 hf) (ab_leS (ab_leS (ab_leS (ab_leS (ab_leS (ab_leN (ab_leN (ab_leN ab_le0))))))))
        · refine ab_iconst (pc2 := 1340) (v := 0) dL_law_1339 rfl ab_k_iconst_0 ?_
          cases Option.some.inj hf
          exact ab_retI dL_law_1340 (Or.inr ⟨rfl, (Or.inl rfl)⟩) (by omega) (by omega) ⟨rfl, rfl, (Or.inl rfl)⟩
      rcases ab_cas hf with ⟨s321, hf⟩ | ⟨s321, hf⟩
      · refine ab_tswK (tgt := 1341) (off := 1301) dL_law_40 s321 (by decide) (by decide) (by decide +kernel) (by decide) ?_
        refine ab_aload_n (x := _) (pc2 := 1342) dL_law_1341 rfl rfl ?_
        refine ab_aload_nS (pc2 := 1343) dL_law_1342 rfl rfl ?_
        refine ab_iload (pc2 := 1345) dL_law_1343 rfl rfl ?_
        refine ab_iconst (pc2 := 1346) (v := 1) dL_law_1345 rfl ab_k_iconst_1 ?_
        refine ab_iadd (pc2 := 1347) dL_law_1346 rfl ?_
        obtain ⟨b322, hf⟩ := ab_guard hf
        refine ab_sld (pc2 := 1348) rfl (ab_in_vp b322) dL_law_1347 rfl ?_
        refine ab_topI (v := xs (i4 + (1 : Int32)).toNatClampNeg) rfl ?_
        obtain ⟨q323, hq323, hf⟩ := ab_bind hf
        obtain ⟨w324, ew324, hf⟩ := ab_bind hf
        refine ab_callV (pc2 := 1351) (st := []) hq323 (T_i1 q323 hq323) (by decide) (m_X11_care (d := (d + 55)) (T_i1 q323 hq323) ew324) mf_X11_care tw_479 tw_478 ts_X11_care (Or.inl (by decide +kernel)) dL_law_1348 rfl (by omega) (by omega) (by omega) rfl (Nat.le_of_ble_eq_true rfl) (ab_kPi ?_)
        refine ab_aload_n (x := _) (pc2 := 1352) dL_law_1351 rfl rfl ?_
        refine ab_aload_nS (pc2 := 1353) dL_law_1352 rfl rfl ?_
        refine ab_iload (pc2 := 1355) dL_law_1353 rfl rfl ?_
        refine ab_iconst (pc2 := 1356) (v := 1) dL_law_1355 rfl ab_k_iconst_1 ?_
        refine ab_iadd (pc2 := 1357) dL_law_1356 rfl ?_
        obtain ⟨b325, hf⟩ := ab_guard hf
        refine ab_sld (pc2 := 1358) rfl (ab_in_vp b325) dL_law_1357 rfl ?_
        refine ab_topI (v := xs (i4 + (1 : Int32)).toNatClampNeg) rfl ?_
        obtain ⟨q326, hq326, hf⟩ := ab_bind hf
        obtain ⟨w327, ew327, hf⟩ := ab_bind hf
        refine ab_callV (pc2 := 1361) (st := [_]) hq326 (T_i2 q326 hq326) (by decide) (m_X12_care (d := (d + 54)) (T_i2 q326 hq326) ew327) mf_X12_care tw_481 tw_480 ts_X12_care (Or.inl (by decide +kernel)) dL_law_1358 rfl (by omega) (by omega) (by omega) rfl (Nat.le_of_ble_eq_true rfl) (ab_kPi ?_)
        refine ab_icmp_eq (tgt := 1391) (pc2 := 1364) dL_law_1361 (by decide) rfl hf (fun c328 hf => ?_) (fun c328 hf => ?_)
        · refine ab_iinc (pc2 := 1394) (v := _ + 6) (lo2 := [some (.float 0), some (va_rf _), some (va_rf _), some (va_rf _), some (.int _), none, none, none]) dL_law_1391 rfl rfl rfl (Nat.le_of_ble_eq_true rfl) (ab_st1_rf (j := 3) rfl rfl) ?_
          refine ab_goto (tgt := 23) dL_law_1394 (by decide) ?_
          exact ab_weak (ih _ _ _ _ _ _ _ (by omega) (by omega) T_i1 T_i2 T_i3 hf) (ab_leS (ab_leS (ab_leS (ab_leS (ab_leS (ab_leN (ab_leN (ab_leN ab_le0))))))))
        · refine ab_iconst (pc2 := 1365) (v := 0) dL_law_1364 rfl ab_k_iconst_0 ?_
          cases Option.some.inj hf
          exact ab_retI dL_law_1365 (Or.inr ⟨rfl, (Or.inl rfl)⟩) (by omega) (by omega) ⟨rfl, rfl, (Or.inl rfl)⟩
      rcases ab_cas hf with ⟨s329, hf⟩ | ⟨s329, hf⟩
      · refine ab_tswK (tgt := 1366) (off := 1326) dL_law_40 s329 (by decide) (by decide) (by decide +kernel) (by decide) ?_
        refine ab_aload_n (x := _) (pc2 := 1367) dL_law_1366 rfl rfl ?_
        refine ab_aload_nS (pc2 := 1368) dL_law_1367 rfl rfl ?_
        refine ab_iload (pc2 := 1370) dL_law_1368 rfl rfl ?_
        refine ab_iconst (pc2 := 1371) (v := 1) dL_law_1370 rfl ab_k_iconst_1 ?_
        refine ab_iadd (pc2 := 1372) dL_law_1371 rfl ?_
        obtain ⟨b330, hf⟩ := ab_guard hf
        refine ab_sld (pc2 := 1373) rfl (ab_in_vp b330) dL_law_1372 rfl ?_
        refine ab_topI (v := xs (i4 + (1 : Int32)).toNatClampNeg) rfl ?_
        obtain ⟨q331, hq331, hf⟩ := ab_bind hf
        obtain ⟨w332, ew332, hf⟩ := ab_bind hf
        refine ab_callVW (pc2 := 1376) (st := []) rfl hq331 (T_i1 q331 hq331) (by decide) (m_X11_toss (d := (d + 49)) (T_i1 q331 hq331) ew332) mf_X11_toss tw_483 tw_482 ts_X11_toss dL_law_1373 rfl (by omega) (by omega) (by omega) rfl (Nat.le_of_ble_eq_true rfl) (ab_kPi ?_)
        refine ab_aload_n (x := _) (pc2 := 1377) dL_law_1376 rfl rfl ?_
        refine ab_aload_nS (pc2 := 1378) dL_law_1377 rfl rfl ?_
        refine ab_iload (pc2 := 1380) dL_law_1378 rfl rfl ?_
        refine ab_iconst (pc2 := 1381) (v := 1) dL_law_1380 rfl ab_k_iconst_1 ?_
        refine ab_iadd (pc2 := 1382) dL_law_1381 rfl ?_
        obtain ⟨b333, hf⟩ := ab_guard hf
        refine ab_sld (pc2 := 1383) rfl (ab_in_vp b333) dL_law_1382 rfl ?_
        refine ab_topI (v := xs (i4 + (1 : Int32)).toNatClampNeg) rfl ?_
        obtain ⟨q334, hq334, hf⟩ := ab_bind hf
        obtain ⟨w335, ew335, hf⟩ := ab_bind hf
        refine ab_callV (pc2 := 1386) (st := [_]) hq334 (T_i2 q334 hq334) (by decide) (m_X12_toss (d := (d + 54)) (T_i2 q334 hq334) ew335) mf_X12_toss tw_485 tw_484 ts_X12_toss (Or.inl (by decide +kernel)) dL_law_1383 rfl (by omega) (by omega) (by omega) rfl (Nat.le_of_ble_eq_true rfl) (ab_kPi ?_)
        refine ab_icmp_eq (tgt := 1391) (pc2 := 1389) dL_law_1386 (by decide) rfl hf (fun c336 hf => ?_) (fun c336 hf => ?_)
        · refine ab_iinc (pc2 := 1394) (v := _ + 6) (lo2 := [some (.float 0), some (va_rf _), some (va_rf _), some (va_rf _), some (.int _), none, none, none]) dL_law_1391 rfl rfl rfl (Nat.le_of_ble_eq_true rfl) (ab_st1_rf (j := 3) rfl rfl) ?_
          refine ab_goto (tgt := 23) dL_law_1394 (by decide) ?_
          exact ab_weak (ih _ _ _ _ _ _ _ (by omega) (by omega) T_i1 T_i2 T_i3 hf) (ab_leS (ab_leS (ab_leS (ab_leS (ab_leS (ab_leN (ab_leN (ab_leN ab_le0))))))))
        · refine ab_iconst (pc2 := 1390) (v := 0) dL_law_1389 rfl ab_k_iconst_0 ?_
          cases Option.some.inj hf
          exact ab_retI dL_law_1390 (Or.inr ⟨rfl, (Or.inl rfl)⟩) (by omega) (by omega) ⟨rfl, rfl, (Or.inl rfl)⟩
      have s11n := lv_neT s11 (by decide : (0 : Int32).toInt = 0)
      have s19n := lv_neT s19 (by decide : (1 : Int32).toInt = 1)
      have s29n := lv_neT s29 (by decide : (2 : Int32).toInt = 2)
      have s35n := lv_neT s35 (by decide : (3 : Int32).toInt = 3)
      have s43n := lv_neT s43 (by decide : (4 : Int32).toInt = 4)
      have s49n := lv_neT s49 (by decide : (5 : Int32).toInt = 5)
      have s59n := lv_neT s59 (by decide : (6 : Int32).toInt = 6)
      have s67n := lv_neT s67 (by decide : (7 : Int32).toInt = 7)
      have s77n := lv_neT s77 (by decide : (8 : Int32).toInt = 8)
      have s85n := lv_neT s85 (by decide : (9 : Int32).toInt = 9)
      have s97n := lv_neT s97 (by decide : (10 : Int32).toInt = 10)
      have s109n := lv_neT s109 (by decide : (11 : Int32).toInt = 11)
      have s121n := lv_neT s121 (by decide : (12 : Int32).toInt = 12)
      have s133n := lv_neT s133 (by decide : (13 : Int32).toInt = 13)
      have s145n := lv_neT s145 (by decide : (14 : Int32).toInt = 14)
      have s157n := lv_neT s157 (by decide : (15 : Int32).toInt = 15)
      have s163n := lv_neT s163 (by decide : (16 : Int32).toInt = 16)
      have s169n := lv_neT s169 (by decide : (17 : Int32).toInt = 17)
      have s185n := lv_neT s185 (by decide : (18 : Int32).toInt = 18)
      have s191n := lv_neT s191 (by decide : (19 : Int32).toInt = 19)
      have s199n := lv_neT s199 (by decide : (20 : Int32).toInt = 20)
      have s211n := lv_neT s211 (by decide : (21 : Int32).toInt = 21)
      have s223n := lv_neT s223 (by decide : (22 : Int32).toInt = 22)
      have s235n := lv_neT s235 (by decide : (23 : Int32).toInt = 23)
      have s241n := lv_neT s241 (by decide : (24 : Int32).toInt = 24)
      have s247n := lv_neT s247 (by decide : (25 : Int32).toInt = 25)
      have s255n := lv_neT s255 (by decide : (26 : Int32).toInt = 26)
      have s267n := lv_neT s267 (by decide : (27 : Int32).toInt = 27)
      have s279n := lv_neT s279 (by decide : (28 : Int32).toInt = 28)
      have s291n := lv_neT s291 (by decide : (29 : Int32).toInt = 29)
      have s305n := lv_neT s305 (by decide : (30 : Int32).toInt = 30)
      have s321n := lv_neT s321 (by decide : (31 : Int32).toInt = 31)
      have s329n := lv_neT s329 (by decide : (32 : Int32).toInt = 32)
      refine ab_tswOut (tgt := 1391) dL_law_40 (by omega) (by decide) ?_
      refine ab_iinc (pc2 := 1394) (v := _ + 6) (lo2 := [some (.float 0), some (va_rf _), some (va_rf _), some (va_rf _), some (.int _), none, none, none]) dL_law_1391 rfl rfl rfl (Nat.le_of_ble_eq_true rfl) (ab_st1_rf (j := 3) rfl rfl) ?_
      refine ab_goto (tgt := 23) dL_law_1394 (by decide) ?_
      exact ab_weak (ih _ _ _ _ _ _ _ (by omega) (by omega) T_i1 T_i2 T_i3 hf) (ab_leS (ab_leS (ab_leS (ab_leS (ab_leS (ab_leN (ab_leN (ab_leN ab_le0))))))))
set_option maxHeartbeats 4000000 in
set_option maxRecDepth 100000 in
theorem x_L_law {d : Nat} {L : Nat} {xs : Nat → Int32} {h : ab_HP} {r : (Int32 × ab_HP)}  (hf : f_L_law L xs h = some r) : ab_T (mL_law L xs) (d + 58) 601024 7293034 0 0 0 [some (.float 0), none, none, none, none, none, none, none] [] h (ab_Pb r.1 r.2) := by
  unfold f_L_law at hf
  obtain ⟨b1, hf⟩ := ab_guard hf
  obtain ⟨h2, eh2, hf⟩ := ab_let_x hf
  refine ab_new (pc2 := 3) nf_L_8 b1 (by omega) (by omega) dL_law_0 rfl ?_
  refine ab_topH eh2 ?_
  refine ab_dup (pc2 := 4) dL_law_3 rfl (ab_rf1 _) ?_
  obtain ⟨w3, ew3, hf⟩ := ab_bind hf
  refine ab_callI (pc2 := 7) (st := [_]) (m_X11_init (d := (d + 55)) b1 ew3) mf_X11_init rfl rfl tw_348 tw_347 dL_law_4 rfl (by omega) (by omega) (by omega) rfl (Nat.le_of_ble_eq_true rfl) (ab_kPv ?_)
  refine ab_astore_n (pc2 := 8) (lo2 := [some (.float 0), some (va_rf _), none, none, none, none, none, none]) dL_law_7 rfl (Nat.le_of_ble_eq_true rfl) rfl ?_
  obtain ⟨b4, hf⟩ := ab_guard hf
  obtain ⟨h5, eh5, hf⟩ := ab_let_x hf
  refine ab_new (pc2 := 11) nf_L_18 b4 (by omega) (by omega) dL_law_8 rfl ?_
  refine ab_topH eh5 ?_
  refine ab_dup (pc2 := 12) dL_law_11 rfl (ab_rf1 _) ?_
  obtain ⟨w6, ew6, hf⟩ := ab_bind hf
  refine ab_callI (pc2 := 15) (st := [_]) (m_X12_init (d := (d + 56)) b4 ew6) mf_X12_init rfl rfl tw_350 tw_349 dL_law_12 rfl (by omega) (by omega) (by omega) rfl (Nat.le_of_ble_eq_true rfl) (ab_kPv ?_)
  refine ab_astore_n (pc2 := 16) (lo2 := [some (.float 0), some (va_rf _), some (va_rf _), none, none, none, none, none]) dL_law_15 rfl (Nat.le_of_ble_eq_true rfl) (ab_st1_rf (j := 1) rfl rfl) ?_
  refine ab_iconst (pc2 := 17) (v := 1) dL_law_16 rfl ab_k_iconst_1 ?_
  obtain ⟨b7, hf⟩ := ab_guard hf
  obtain ⟨h8, eh8, hf⟩ := ab_let_x hf
  refine ab_newaL (pc2 := 19) tw_351 b7 (by decide) (by decide) (by decide) (by omega) (by omega) dL_law_17 rfl ?_
  refine ab_topH eh8 ?_
  refine ab_astore_n (pc2 := 20) (lo2 := [some (.float 0), some (va_rf _), some (va_rf _), some (va_rf _), none, none, none, none]) dL_law_19 rfl (Nat.le_of_ble_eq_true rfl) (ab_st1_rf (j := 2) rfl rfl) ?_
  refine ab_iconst (pc2 := 21) (v := 0) dL_law_20 rfl ab_k_iconst_0 ?_
  refine ab_istore (pc2 := 23) (lo2 := [some (.float 0), some (va_rf _), some (va_rf _), some (va_rf _), some (.int _), none, none, none]) dL_law_21 rfl (Nat.le_of_ble_eq_true rfl) (ab_st1_rf (j := 3) rfl rfl) ?_
  exact ab_weak (x_L_law_l23  _ _ _ _ _ _ _ _ (by omega) (by omega) (ab_ty1 b1) (ab_ty1 b4) (ab_ty1 (congrArg Prod.fst b7)) hf) (ab_leS (ab_leS (ab_leS (ab_leS (ab_leS (ab_leN (ab_leN (ab_leN ab_le0))))))))
