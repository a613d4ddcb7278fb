set_option maxHeartbeats 4000000 in
set_option maxRecDepth 100000 in
theorem x_X12_comes {d : Nat} {t0 : Nat} {i1 : Int32} {h : ab_HP} {r : (Int32 × ab_HP)} (ht0 : (ab_shp t0).1 = 5) (hf : f_X12_comes t0 i1 h = some r) : ab_T mX12_comes (d + 0) 0 0 0 0 0 [some (va_rf (some t0)), some (.int i1), none, none] [] h (ab_Pb r.1 r.2) := by
  unfold f_X12_comes at hf
  refine ab_aload_n (x := _) (pc2 := 1) dX12_comes_0 rfl rfl ?_
  refine ab_getR (pc2 := 4) rfl ht0 fa_X12_37 dX12_comes_1 rfl (fun T1 => ?_)
  refine ab_iconst (pc2 := 5) (v := 0) dX12_comes_4 rfl ab_k_iconst_0 ?_
  obtain ⟨q2, hq2, hf⟩ := ab_bind hf
  obtain ⟨b3, hf⟩ := ab_guard hf
  refine ab_iald (pc2 := 6) hq2 (T1 q2 hq2) (ab_in_vp b3) dX12_comes_5 rfl ?_
  refine ab_istore_n (pc2 := 7) (lo2 := [some (va_rf _), some (.int _), some (.int _), none]) dX12_comes_6 rfl (by decide) rfl ?_
  refine ab_iload_n (pc2 := 8) dX12_comes_7 rfl rfl ?_
  rcases ab_cas hf with ⟨s4, hf⟩ | ⟨s4, hf⟩
  · refine ab_lswK (tgt := 190) (off := 182) dX12_comes_8 s4 (by decide +kernel) (by decide +kernel) (by decide) ?_
    refine ab_aload_n (x := _) (pc2 := 191) dX12_comes_190 rfl rfl ?_
    refine ab_getR (pc2 := 194) rfl ht0 fa_X12_16 dX12_comes_191 rfl (fun T5 => ?_)
    refine ab_iconst (pc2 := 195) (v := 1) dX12_comes_194 rfl ab_k_iconst_1 ?_
    refine ab_iload_n (pc2 := 196) dX12_comes_195 rfl rfl ?_
    obtain ⟨q6, hq6, hf⟩ := ab_bind hf
    obtain ⟨b7, hf⟩ := ab_guard hf
    obtain ⟨h8, eh8, hf⟩ := ab_let_x hf
    refine ab_iast (pc2 := 197) hq6 (T5 q6 hq6) (ab_in_vp b7) dX12_comes_196 rfl ?_
    refine ab_topH eh8 ?_
    refine ab_iconst (pc2 := 198) (v := 1) dX12_comes_197 rfl ab_k_iconst_1 ?_
    cases Option.some.inj hf
    exact ab_retI dX12_comes_198 (Or.inr ⟨rfl, (Or.inr rfl)⟩) (Nat.le_refl _) (Nat.le_refl _) ⟨rfl, rfl, (Or.inr rfl)⟩
  rcases ab_cas hf with ⟨s9, hf⟩ | ⟨s9, hf⟩
  · refine ab_lswK (tgt := 52) (off := 44) dX12_comes_8 s9 (by decide +kernel) (by decide +kernel) (by decide) ?_
    refine ab_aload_n (x := _) (pc2 := 53) dX12_comes_52 rfl rfl ?_
    refine ab_getI (pc2 := 56) rfl ht0 fa_X12_105 (by decide) dX12_comes_53 rfl ?_
    refine ab_bipush (pc2 := 58) (v := 7) dX12_comes_56 rfl ab_k_bipush_7 ?_
    refine ab_icmp_gt (tgt := 73) (pc2 := 61) dX12_comes_58 (by decide) rfl hf (fun c10 hf => ?_) (fun c10 hf => ?_)
    · refine ab_iconst (pc2 := 74) (v := 0) dX12_comes_73 rfl ab_k_iconst_0 ?_
      cases Option.some.inj hf
      exact ab_retI dX12_comes_74 (Or.inr ⟨rfl, (Or.inl rfl)⟩) (Nat.le_refl _) (Nat.le_refl _) ⟨rfl, rfl, (Or.inl rfl)⟩
    · refine ab_aload_n (x := _) (pc2 := 62) dX12_comes_61 rfl rfl ?_
      refine ab_getR (pc2 := 65) rfl ht0 fa_X12_16 dX12_comes_62 rfl (fun T11 => ?_)
      refine ab_bipush (pc2 := 67) (v := 6) dX12_comes_65 rfl ab_k_bipush_6 ?_
      obtain ⟨q12, hq12, hf⟩ := ab_bind hf
      obtain ⟨b13, hf⟩ := ab_guard hf
      refine ab_iald (pc2 := 68) hq12 (T11 q12 hq12) (ab_in_vp b13) dX12_comes_67 rfl ?_
      refine ab_bipush (pc2 := 70) (v := 8) dX12_comes_68 rfl ab_k_bipush_8 ?_
      refine ab_icmp_ne (tgt := 75) (pc2 := 73) dX12_comes_70 (by decide) rfl hf (fun c14 hf => ?_) (fun c14 hf => ?_)
      · refine ab_bipush (pc2 := 77) (v := 7) dX12_comes_75 rfl ab_k_bipush_7 ?_
        refine ab_iconst (pc2 := 78) (v := 5) dX12_comes_77 rfl ab_k_iconst_5 ?_
        refine ab_aload_n (x := _) (pc2 := 79) dX12_comes_78 rfl rfl ?_
        refine ab_getR (pc2 := 82) rfl ht0 fa_X12_16 dX12_comes_79 rfl (fun T15 => ?_)
        refine ab_bipush (pc2 := 84) (v := 6) dX12_comes_82 rfl ab_k_bipush_6 ?_
        obtain ⟨q16, hq16, hf⟩ := ab_bind hf
        obtain ⟨b17, hf⟩ := ab_guard hf
        refine ab_iald (pc2 := 85) hq16 (T15 q16 hq16) (ab_in_vp b17) dX12_comes_84 rfl ?_
        refine ab_imul (pc2 := 86) dX12_comes_85 rfl ?_
        refine ab_iadd (pc2 := 87) dX12_comes_86 rfl ?_
        obtain ⟨v18, ev18, hf⟩ := ab_let_x hf
        refine ab_topI ev18 ?_
        refine ab_istore_n (pc2 := 88) (lo2 := [some (va_rf _), some (.int _), some (.int _), some (.int _)]) dX12_comes_87 rfl (by decide) rfl ?_
        refine ab_aload_n (x := _) (pc2 := 89) dX12_comes_88 rfl rfl ?_
        refine ab_getR (pc2 := 92) rfl ht0 fa_X12_16 dX12_comes_89 rfl (fun T19 => ?_)
        refine ab_iload_n (pc2 := 93) dX12_comes_92 rfl rfl ?_
        refine ab_iconst (pc2 := 94) (v := 0) dX12_comes_93 rfl ab_k_iconst_0 ?_
        refine ab_iadd (pc2 := 95) dX12_comes_94 rfl ?_
        refine ab_aload_n (x := _) (pc2 := 96) dX12_comes_95 rfl rfl ?_
        refine ab_getI (pc2 := 99) rfl ht0 fa_X12_105 (by decide) dX12_comes_96 rfl ?_
        obtain ⟨q20, hq20, hf⟩ := ab_bind hf
        obtain ⟨b21, hf⟩ := ab_guard hf
        obtain ⟨h22, eh22, hf⟩ := ab_let_x hf
        refine ab_iast (pc2 := 100) hq20 (T19 q20 hq20) (ab_in_vp b21) dX12_comes_99 rfl ?_
        refine ab_topH eh22 ?_
        refine ab_aload_n (x := _) (pc2 := 101) dX12_comes_100 rfl rfl ?_
        refine ab_getR (pc2 := 104) rfl ht0 fa_X12_16 dX12_comes_101 rfl (fun T23 => ?_)
        refine ab_iload_n (pc2 := 105) dX12_comes_104 rfl rfl ?_
        refine ab_iconst (pc2 := 106) (v := 1) dX12_comes_105 rfl ab_k_iconst_1 ?_
        refine ab_iadd (pc2 := 107) dX12_comes_106 rfl ?_
        refine ab_aload_n (x := _) (pc2 := 108) dX12_comes_107 rfl rfl ?_
        refine ab_getI (pc2 := 111) rfl ht0 fa_X12_108 (by decide) dX12_comes_108 rfl ?_
        obtain ⟨q24, hq24, hf⟩ := ab_bind hf
        obtain ⟨b25, hf⟩ := ab_guard hf
        obtain ⟨h26, eh26, hf⟩ := ab_let_x hf
        refine ab_iast (pc2 := 112) hq24 (T23 q24 hq24) (ab_in_vp b25) dX12_comes_111 rfl ?_
        refine ab_topH eh26 ?_
        refine ab_aload_n (x := _) (pc2 := 113) dX12_comes_112 rfl rfl ?_
        refine ab_getR (pc2 := 116) rfl ht0 fa_X12_16 dX12_comes_113 rfl (fun T27 => ?_)
        refine ab_iload_n (pc2 := 117) dX12_comes_116 rfl rfl ?_
        refine ab_iconst (pc2 := 118) (v := 2) dX12_comes_117 rfl ab_k_iconst_2 ?_
        refine ab_iadd (pc2 := 119) dX12_comes_118 rfl ?_
        refine ab_iload_n (pc2 := 120) dX12_comes_119 rfl rfl ?_
        obtain ⟨q28, hq28, hf⟩ := ab_bind hf
        obtain ⟨b29, hf⟩ := ab_guard hf
        obtain ⟨h30, eh30, hf⟩ := ab_let_x hf
        refine ab_iast (pc2 := 121) hq28 (T27 q28 hq28) (ab_in_vp b29) dX12_comes_120 rfl ?_
        refine ab_topH eh30 ?_
        refine ab_aload_n (x := _) (pc2 := 122) dX12_comes_121 rfl rfl ?_
        refine ab_getR (pc2 := 125) rfl ht0 fa_X12_16 dX12_comes_122 rfl (fun T31 => ?_)
        refine ab_iload_n (pc2 := 126) dX12_comes_125 rfl rfl ?_
        refine ab_iconst (pc2 := 127) (v := 3) dX12_comes_126 rfl ab_k_iconst_3 ?_
        refine ab_iadd (pc2 := 128) dX12_comes_127 rfl ?_
        refine ab_aload_n (x := _) (pc2 := 129) dX12_comes_128 rfl rfl ?_
        refine ab_getR (pc2 := 132) rfl ht0 fa_X12_37 dX12_comes_129 rfl (fun T32 => ?_)
        refine ab_iconst (pc2 := 133) (v := 1) dX12_comes_132 rfl ab_k_iconst_1 ?_
        obtain ⟨q33, hq33, hf⟩ := ab_bind hf
        obtain ⟨b34, hf⟩ := ab_guard hf
        refine ab_iald (pc2 := 134) hq33 (T32 q33 hq33) (ab_in_vp b34) dX12_comes_133 rfl ?_
        obtain ⟨q35, hq35, hf⟩ := ab_bind hf
        obtain ⟨b36, hf⟩ := ab_guard hf
        obtain ⟨h37, eh37, hf⟩ := ab_let_x hf
        refine ab_iast (pc2 := 135) hq35 (T31 q35 hq35) (ab_in_vp b36) dX12_comes_134 rfl ?_
        refine ab_topH eh37 ?_
        refine ab_aload_n (x := _) (pc2 := 136) dX12_comes_135 rfl rfl ?_
        refine ab_getR (pc2 := 139) rfl ht0 fa_X12_16 dX12_comes_136 rfl (fun T38 => ?_)
        refine ab_iload_n (pc2 := 140) dX12_comes_139 rfl rfl ?_
        refine ab_iconst (pc2 := 141) (v := 4) dX12_comes_140 rfl ab_k_iconst_4 ?_
        refine ab_iadd (pc2 := 142) dX12_comes_141 rfl ?_
        refine ab_aload_n (x := _) (pc2 := 143) dX12_comes_142 rfl rfl ?_
        refine ab_getI (pc2 := 146) rfl ht0 fa_X12_117 (by decide) dX12_comes_143 rfl ?_
        obtain ⟨q39, hq39, hf⟩ := ab_bind hf
        obtain ⟨b40, hf⟩ := ab_guard hf
        obtain ⟨h41, eh41, hf⟩ := ab_let_x hf
        refine ab_iast (pc2 := 147) hq39 (T38 q39 hq39) (ab_in_vp b40) dX12_comes_146 rfl ?_
        refine ab_topH eh41 ?_
        refine ab_aload_n (x := _) (pc2 := 148) dX12_comes_147 rfl rfl ?_
        refine ab_getR (pc2 := 151) rfl ht0 fa_X12_16 dX12_comes_148 rfl (fun T42 => ?_)
        refine ab_bipush (pc2 := 153) (v := 6) dX12_comes_151 rfl ab_k_bipush_6 ?_
        refine ab_dup2 (pc2 := 154) dX12_comes_153 rfl rfl (ab_rf1 _) ?_
        obtain ⟨q43, hq43, hf⟩ := ab_bind hf
        obtain ⟨b44, hf⟩ := ab_guard hf
        refine ab_iald (pc2 := 155) hq43 (T42 q43 hq43) (ab_in_vp b44) dX12_comes_154 rfl ?_
        refine ab_iconst (pc2 := 156) (v := 1) dX12_comes_155 rfl ab_k_iconst_1 ?_
        refine ab_iadd (pc2 := 157) dX12_comes_156 rfl ?_
        obtain ⟨b45, hf⟩ := ab_guard hf
        obtain ⟨h46, eh46, hf⟩ := ab_let_x hf
        refine ab_iast (pc2 := 158) hq43 (T42 q43 hq43) (ab_in_vp b45) dX12_comes_157 rfl ?_
        refine ab_topH eh46 ?_
        refine ab_iconst (pc2 := 159) (v := 1) dX12_comes_158 rfl ab_k_iconst_1 ?_
        cases Option.some.inj hf
        exact ab_retI dX12_comes_159 (Or.inr ⟨rfl, (Or.inr rfl)⟩) (Nat.le_refl _) (Nat.le_refl _) ⟨rfl, rfl, (Or.inr rfl)⟩
      · refine ab_iconst (pc2 := 74) (v := 0) dX12_comes_73 rfl ab_k_iconst_0 ?_
        cases Option.some.inj hf
        exact ab_retI dX12_comes_74 (Or.inr ⟨rfl, (Or.inl rfl)⟩) (Nat.le_refl _) (Nat.le_refl _) ⟨rfl, rfl, (Or.inl rfl)⟩
  rcases ab_cas hf with ⟨s47, hf⟩ | ⟨s47, hf⟩
  · refine ab_lswK (tgt := 199) (off := 191) dX12_comes_8 s47 (by decide +kernel) (by decide +kernel) (by decide) ?_
    refine ab_aload_n (x := _) (pc2 := 200) dX12_comes_199 rfl rfl ?_
    refine ab_getR (pc2 := 203) rfl ht0 fa_X12_16 dX12_comes_200 rfl (fun T48 => ?_)
    refine ab_iconst (pc2 := 204) (v := 3) dX12_comes_203 rfl ab_k_iconst_3 ?_
    refine ab_iload_n (pc2 := 205) dX12_comes_204 rfl rfl ?_
    obtain ⟨q49, hq49, hf⟩ := ab_bind hf
    obtain ⟨b50, hf⟩ := ab_guard hf
    obtain ⟨h51, eh51, hf⟩ := ab_let_x hf
    refine ab_iast (pc2 := 206) hq49 (T48 q49 hq49) (ab_in_vp b50) dX12_comes_205 rfl ?_
    refine ab_topH eh51 ?_
    refine ab_iload_n (pc2 := 207) dX12_comes_206 rfl rfl ?_
    refine ab_iconst (pc2 := 208) (v := 3) dX12_comes_207 rfl ab_k_iconst_3 ?_
    refine ab_icmp_ge (tgt := 215) (pc2 := 211) dX12_comes_208 (by decide) rfl hf (fun c52 hf => ?_) (fun c52 hf => ?_)
    · refine ab_iconst (pc2 := 216) (v := 0) dX12_comes_215 rfl ab_k_iconst_0 ?_
      cases Option.some.inj hf
      exact ab_retI dX12_comes_216 (Or.inr ⟨rfl, (Or.inl rfl)⟩) (Nat.le_refl _) (Nat.le_refl _) ⟨rfl, rfl, (Or.inl rfl)⟩
    · refine ab_iconst (pc2 := 212) (v := 1) dX12_comes_211 rfl ab_k_iconst_1 ?_
      refine ab_goto (tgt := 216) dX12_comes_212 (by decide) ?_
      cases Option.some.inj hf
      exact ab_retI dX12_comes_216 (Or.inr ⟨rfl, (Or.inr rfl)⟩) (Nat.le_refl _) (Nat.le_refl _) ⟨rfl, rfl, (Or.inr rfl)⟩
  rcases ab_cas hf with ⟨s53, hf⟩ | ⟨s53, hf⟩
  · refine ab_lswK (tgt := 160) (off := 152) dX12_comes_8 s53 (by decide +kernel) (by decide +kernel) (by decide) ?_
    refine ab_aload_n (x := _) (pc2 := 161) dX12_comes_160 rfl rfl ?_
    refine ab_getR (pc2 := 164) rfl ht0 fa_X12_16 dX12_comes_161 rfl (fun T54 => ?_)
    refine ab_iconst (pc2 := 165) (v := 0) dX12_comes_164 rfl ab_k_iconst_0 ?_
    obtain ⟨q55, hq55, hf⟩ := ab_bind hf
    obtain ⟨b56, hf⟩ := ab_guard hf
    refine ab_iald (pc2 := 166) hq55 (T54 q55 hq55) (ab_in_vp b56) dX12_comes_165 rfl ?_
    refine ab_iload_n (pc2 := 167) dX12_comes_166 rfl rfl ?_
    refine ab_ishr (pc2 := 168) dX12_comes_167 rfl ?_
    refine ab_iconst (pc2 := 169) (v := 1) dX12_comes_168 rfl ab_k_iconst_1 ?_
    refine ab_iand (pc2 := 170) dX12_comes_169 rfl ?_
    refine ab_iconst (pc2 := 171) (v := 1) dX12_comes_170 rfl ab_k_iconst_1 ?_
    refine ab_icmp_ne (tgt := 176) (pc2 := 174) dX12_comes_171 (by decide) rfl hf (fun c57 hf => ?_) (fun c57 hf => ?_)
    · refine ab_aload_n (x := _) (pc2 := 177) dX12_comes_176 rfl rfl ?_
      refine ab_getR (pc2 := 180) rfl ht0 fa_X12_16 dX12_comes_177 rfl (fun T58 => ?_)
      refine ab_iconst (pc2 := 181) (v := 0) dX12_comes_180 rfl ab_k_iconst_0 ?_
      refine ab_dup2 (pc2 := 182) dX12_comes_181 rfl rfl (ab_rf1 _) ?_
      obtain ⟨q59, hq59, hf⟩ := ab_bind hf
      obtain ⟨b60, hf⟩ := ab_guard hf
      refine ab_iald (pc2 := 183) hq59 (T58 q59 hq59) (ab_in_vp b60) dX12_comes_182 rfl ?_
      refine ab_iconst (pc2 := 184) (v := 1) dX12_comes_183 rfl ab_k_iconst_1 ?_
      refine ab_iload_n (pc2 := 185) dX12_comes_184 rfl rfl ?_
      refine ab_ishl (pc2 := 186) dX12_comes_185 rfl ?_
      refine ab_ior (pc2 := 187) dX12_comes_186 rfl ?_
      obtain ⟨b61, hf⟩ := ab_guard hf
      obtain ⟨h62, eh62, hf⟩ := ab_let_x hf
      refine ab_iast (pc2 := 188) hq59 (T58 q59 hq59) (ab_in_vp b61) dX12_comes_187 rfl ?_
      refine ab_topH eh62 ?_
      refine ab_iconst (pc2 := 189) (v := 1) dX12_comes_188 rfl ab_k_iconst_1 ?_
      cases Option.some.inj hf
      exact ab_retI dX12_comes_189 (Or.inr ⟨rfl, (Or.inr rfl)⟩) (Nat.le_refl _) (Nat.le_refl _) ⟨rfl, rfl, (Or.inr rfl)⟩
    · refine ab_iconst (pc2 := 175) (v := 0) dX12_comes_174 rfl ab_k_iconst_0 ?_
      cases Option.some.inj hf
      exact ab_retI dX12_comes_175 (Or.inr ⟨rfl, (Or.inl rfl)⟩) (Nat.le_refl _) (Nat.le_refl _) ⟨rfl, rfl, (Or.inl rfl)⟩
  refine ab_lsw (tgt := 217) (off := 209) dX12_comes_8 (by decide +kernel) (by show Op.lookupswitch.offset [(99, 182), (100, 44), (108, 191), (109, 152)] _ _ = _; rw [lv_osw s4 (by decide), lv_osw s9 (by decide), lv_osw s47 (by decide), lv_osw s53 (by decide)]; rfl) (by decide) ?_
  refine ab_aload_n (x := _) (pc2 := 218) dX12_comes_217 rfl rfl ?_
  refine ab_getR (pc2 := 221) rfl ht0 fa_X12_16 dX12_comes_218 rfl (fun T63 => ?_)
  refine ab_iconst (pc2 := 222) (v := 4) dX12_comes_221 rfl ab_k_iconst_4 ?_
  refine ab_iload_n (pc2 := 223) dX12_comes_222 rfl rfl ?_
  obtain ⟨q64, hq64, hf⟩ := ab_bind hf
  obtain ⟨b65, hf⟩ := ab_guard hf
  obtain ⟨h66, eh66, hf⟩ := ab_let_x hf
  refine ab_iast (pc2 := 224) hq64 (T63 q64 hq64) (ab_in_vp b65) dX12_comes_223 rfl ?_
  refine ab_topH eh66 ?_
  refine ab_aload_n (x := _) (pc2 := 225) dX12_comes_224 rfl rfl ?_
  refine ab_getR (pc2 := 228) rfl ht0 fa_X12_16 dX12_comes_225 rfl (fun T67 => ?_)
  refine ab_iconst (pc2 := 229) (v := 5) dX12_comes_228 rfl ab_k_iconst_5 ?_
  refine ab_aload_n (x := _) (pc2 := 230) dX12_comes_229 rfl rfl ?_
  refine ab_getR (pc2 := 233) rfl ht0 fa_X12_37 dX12_comes_230 rfl (fun T68 => ?_)
  refine ab_iconst (pc2 := 234) (v := 1) dX12_comes_233 rfl ab_k_iconst_1 ?_
  obtain ⟨q69, hq69, hf⟩ := ab_bind hf
  obtain ⟨b70, hf⟩ := ab_guard hf
  refine ab_iald (pc2 := 235) hq69 (T68 q69 hq69) (ab_in_vp b70) dX12_comes_234 rfl ?_
  obtain ⟨q71, hq71, hf⟩ := ab_bind hf
  obtain ⟨b72, hf⟩ := ab_guard hf
  obtain ⟨h73, eh73, hf⟩ := ab_let_x hf
  refine ab_iast (pc2 := 236) hq71 (T67 q71 hq71) (ab_in_vp b72) dX12_comes_235 rfl ?_
  refine ab_topH eh73 ?_
  refine ab_iconst (pc2 := 237) (v := 1) dX12_comes_236 rfl ab_k_iconst_1 ?_
  cases Option.some.inj hf
  exact ab_retI dX12_comes_237 (Or.inr ⟨rfl, (Or.inr rfl)⟩) (Nat.le_refl _) (Nat.le_refl _) ⟨rfl, rfl, (Or.inr rfl)⟩
set_option maxHeartbeats 4000000 in
set_option maxRecDepth 100000 in
theorem m_X12_comes {d : Nat} {t0 : Nat} {i1 : Int32} {h : ab_HP} {r : (Int32 × ab_HP)} (ht0 : (ab_shp t0).1 = 5) (hf : f_X12_comes t0 i1 h = some r) : ab_MET mX12_comes (d + 0) 0 0 [va_rf (some t0), .int i1] h (ab_Pb r.1 r.2) := ab_met (by decide +kernel) (by decide +kernel) (Nat.le_of_ble_eq_true rfl) rfl (x_X12_comes ht0 hf)
set_option maxHeartbeats 4000000 in
set_option maxRecDepth 100000 in
theorem x_X12_town_l154 {d : Nat} {t0 : Nat} {r : (Int32 × ab_HP)} (ht0 : (ab_shp t0).1 = 5) : ∀ (n : Nat) (i3 : Int32) (i4 : Int32) (h : ab_HP), f_X12_town_l154 t0 n i3 i4 h = some r → ab_T mX12_town (d + 5) 0 0 0 0 154 [some (va_rf (some t0)), none, none, some (.int i3), some (.int i4), none, none] [] h (ab_Pi r.1 r.2) := by
  intro n
  induction n with
  | zero =>
    intro i3 i4 h hf
    rw [f_X12_town_l154] at hf
    cases hf
  | succ n ih =>
    intro i3 i4 h hf
    rw [f_X12_town_l154] at hf
    refine ab_iload (pc2 := 156) dX12_town_154 rfl rfl ?_
    refine ab_bipush (pc2 := 158) (v := 47) dX12_town_156 rfl ab_k_bipush_47 ?_
    refine ab_icmp_ge (tgt := 181) (pc2 := 161) dX12_town_158 (by decide) rfl hf (fun c29 hf => ?_) (fun c29 hf => ?_)
    · refine ab_iload_n (pc2 := 182) dX12_town_181 rfl rfl ?_
      cases Option.some.inj hf
      exact ab_retI dX12_town_182 (Or.inl rfl) (Nat.le_refl _) (Nat.le_refl _) ⟨rfl, rfl⟩
    · refine ab_aload_n (x := _) (pc2 := 162) dX12_town_161 rfl rfl ?_
      refine ab_getR (pc2 := 165) rfl ht0 fa_X12_9 dX12_town_162 rfl (fun T30 => ?_)
      refine ab_iload (pc2 := 167) dX12_town_165 rfl rfl ?_
      refine ab_aload_n (x := _) (pc2 := 168) dX12_town_167 rfl rfl ?_
      refine ab_getR (pc2 := 171) rfl ht0 fa_X12_16 dX12_town_168 rfl (fun T31 => ?_)
      refine ab_iload (pc2 := 173) dX12_town_171 rfl rfl ?_
      obtain ⟨q32, hq32, hf⟩ := ab_bind hf
      obtain ⟨b33, hf⟩ := ab_guard hf
      refine ab_iald (pc2 := 174) hq32 (T31 q32 hq32) (ab_in_vp b33) dX12_town_173 rfl ?_
      obtain ⟨q34, hq34, hf⟩ := ab_bind hf
      obtain ⟨b35, hf⟩ := ab_guard hf
      obtain ⟨h36, eh36, hf⟩ := ab_let_x hf
      refine ab_iast (pc2 := 175) hq34 (T30 q34 hq34) (ab_in_vp b35) dX12_town_174 rfl ?_
      refine ab_topH eh36 ?_
      refine ab_iinc (pc2 := 178) (v := _ + 1) (lo2 := [some (va_rf _), none, none, some (.int _), some (.int _), none, none]) dX12_town_175 rfl rfl rfl (by decide) rfl ?_
      refine ab_goto (tgt := 154) dX12_town_178 (by decide) ?_
      exact ab_weak (ih _ _ _ hf) (ab_leS (ab_leN (ab_leN (ab_leS (ab_leS (ab_leN (ab_leN ab_le0)))))))
set_option maxHeartbeats 4000000 in
set_option maxRecDepth 100000 in
theorem x_X12_town_l103 {d : Nat} {t0 : Nat} {r : (Int32 × ab_HP)} (ht0 : (ab_shp t0).1 = 5) : ∀ (n : Nat) (i3 : Int32) (h : ab_HP), f_X12_town_l103 t0 n i3 h = some r → ab_T mX12_town (d + 5) 0 0 0 0 103 [some (va_rf (some t0)), none, none, some (.int i3), none, none, none] [] h (ab_Pi r.1 r.2) := by
  intro n
  induction n with
  | zero =>
    intro i3 h hf
    rw [f_X12_town_l103] at hf
    cases hf
  | succ n ih =>
    intro i3 h hf
    rw [f_X12_town_l103] at hf
    refine ab_aload_n (x := _) (pc2 := 104) dX12_town_103 rfl rfl ?_
    refine ab_getI (pc2 := 107) rfl ht0 fa_X12_73 (by decide) dX12_town_104 rfl ?_
    refine ab_aload_n (x := _) (pc2 := 108) dX12_town_107 rfl rfl ?_
    refine ab_getI (pc2 := 111) rfl ht0 fa_X12_76 (by decide) dX12_town_108 rfl ?_
    refine ab_icmp_ge (tgt := 151) (pc2 := 114) dX12_town_111 (by decide) rfl hf (fun c22 hf => ?_) (fun c22 hf => ?_)
    · refine ab_iconst (pc2 := 152) (v := 0) dX12_town_151 rfl ab_k_iconst_0 ?_
      refine ab_istore (pc2 := 154) (lo2 := [some (va_rf _), none, none, some (.int _), some (.int _), none, none]) dX12_town_152 rfl (by decide) rfl ?_
      exact ab_weak (x_X12_town_l154 ht0 _ _ _ _ hf) (ab_leS (ab_leN (ab_leN (ab_leS (ab_leS (ab_leN (ab_leN ab_le0)))))))
    · refine ab_aload_n (x := _) (pc2 := 115) dX12_town_114 rfl rfl ?_
      refine ab_getI (pc2 := 118) rfl ht0 fa_X12_73 (by decide) dX12_town_115 rfl ?_
      refine ab_istore (pc2 := 120) (lo2 := [some (va_rf _), none, none, some (.int _), some (.int _), none, none]) dX12_town_118 rfl (by decide) rfl ?_
      refine ab_aload_n (x := _) (pc2 := 121) dX12_town_120 rfl rfl ?_
      obtain ⟨w23, ew23, hf⟩ := ab_bind hf
      refine ab_callV (pc2 := 124) (st := []) rfl ht0 (by decide) (m_X12_here (d := (d + 4)) ht0 ew23) mf_X12_here tw_106 tw_105 ts_X12_here (Or.inl (by decide +kernel)) dX12_town_121 rfl (by omega) (Nat.le_refl _) (Nat.le_refl _) rfl (Nat.le_of_ble_eq_true rfl) (ab_kPi ?_)
      refine ab_istore (pc2 := 126) (lo2 := [some (va_rf _), none, none, some (.int _), some (.int _), some (.int _), none]) dX12_town_124 rfl (by decide) rfl ?_
      refine ab_aload_n (x := _) (pc2 := 127) dX12_town_126 rfl rfl ?_
      obtain ⟨w24, ew24, hf⟩ := ab_bind hf
      refine ab_callV (pc2 := 130) (st := []) rfl ht0 (by decide) (m_X12_readsStatement (d := (d + 0)) ht0 ew24) mf_X12_readsStatement tw_124 tw_123 ts_X12_readsStatement (Or.inl (by decide +kernel)) dX12_town_127 rfl (by omega) (Nat.le_refl _) (Nat.le_refl _) rfl (Nat.le_of_ble_eq_true rfl) (ab_kPb fun z25 => ?_)
      refine ab_istore (pc2 := 132) (lo2 := [some (va_rf _), none, none, some (.int _), some (.int _), some (.int _), some (.int _)]) dX12_town_130 rfl (by decide) rfl ?_
      refine ab_aload_n (x := _) (pc2 := 133) dX12_town_132 rfl rfl ?_
      refine ab_iload (pc2 := 135) dX12_town_133 rfl rfl ?_
      obtain ⟨w26, ew26, hf⟩ := ab_bind hf
      refine ab_callV (pc2 := 138) (st := []) rfl ht0 (by decide) (m_X12_comes (d := (d + 4)) ht0 ew26) mf_X12_comes tw_126 tw_125 ts_X12_comes (Or.inl (by decide +kernel)) dX12_town_135 rfl (by omega) (Nat.le_refl _) (Nat.le_refl _) rfl (Nat.le_of_ble_eq_true rfl) (ab_kPb fun z27 => ?_)
      refine ab_if_ne (tgt := 148) (pc2 := 141) dX12_town_138 (by decide) rfl hf (fun c28 hf => ?_) (fun c28 hf => ?_)
      · refine ab_goto (tgt := 103) dX12_town_148 (by decide) ?_
        exact ab_weak (ih _ _ hf) (ab_leS (ab_leN (ab_leN (ab_leS (ab_leN (ab_leN (ab_leN ab_le0)))))))
      · refine ab_sipush (pc2 := 144) (v := (-2000)) dX12_town_141 rfl ab_k_sipush_m2000 ?_
        refine ab_iload (pc2 := 146) dX12_town_144 rfl rfl ?_
        refine ab_isub (pc2 := 147) dX12_town_146 rfl ?_
        cases Option.some.inj hf
        exact ab_retI dX12_town_147 (Or.inl rfl) (Nat.le_refl _) (Nat.le_refl _) ⟨rfl, rfl⟩
set_option maxHeartbeats 4000000 in
set_option maxRecDepth 100000 in
theorem x_X12_town_l71 {d : Nat} {t0 : Nat} {r : (Int32 × ab_HP)} (ht0 : (ab_shp t0).1 = 5) : ∀ (n : Nat) (i3 : Int32) (i4 : Int32) (h : ab_HP), f_X12_town_l71 t0 n i3 i4 h = some r → ab_T mX12_town (d + 5) 0 0 0 0 71 [some (va_rf (some t0)), none, none, some (.int i3), some (.int i4), none, none] [] h (ab_Pi r.1 r.2) := by
  intro n
  induction n with
  | zero =>
    intro i3 i4 h hf
    rw [f_X12_town_l71] at hf
    cases hf
  | succ n ih =>
    intro i3 i4 h hf
    rw [f_X12_town_l71] at hf
    refine ab_iload (pc2 := 73) dX12_town_71 rfl rfl ?_
    refine ab_bipush (pc2 := 75) (v := 47) dX12_town_73 rfl ab_k_bipush_47 ?_
    refine ab_icmp_ge (tgt := 98) (pc2 := 78) dX12_town_75 (by decide) rfl hf (fun c13 hf => ?_) (fun c13 hf => ?_)
    · refine ab_aload_n (x := _) (pc2 := 99) dX12_town_98 rfl rfl ?_
      refine ab_iconst (pc2 := 100) (v := 0) dX12_town_99 rfl ab_k_iconst_0 ?_
      obtain ⟨h14, eh14, hf⟩ := ab_let_x hf
      refine ab_putI (pc2 := 103) rfl ht0 fa_X12_73 (Or.inl rfl) (fun z => by cases z) dX12_town_100 rfl ?_
      refine ab_topH eh14 ?_
      exact ab_weak (x_X12_town_l103 ht0 _ _ _ hf) (ab_leS (ab_leN (ab_leN (ab_leS (ab_leN (ab_leN (ab_leN ab_le0)))))))
    · refine ab_aload_n (x := _) (pc2 := 79) dX12_town_78 rfl rfl ?_
      refine ab_getR (pc2 := 82) rfl ht0 fa_X12_16 dX12_town_79 rfl (fun T15 => ?_)
      refine ab_iload (pc2 := 84) dX12_town_82 rfl rfl ?_
      refine ab_aload_n (x := _) (pc2 := 85) dX12_town_84 rfl rfl ?_
      refine ab_getR (pc2 := 88) rfl ht0 fa_X12_9 dX12_town_85 rfl (fun T16 => ?_)
      refine ab_iload (pc2 := 90) dX12_town_88 rfl rfl ?_
      obtain ⟨q17, hq17, hf⟩ := ab_bind hf
      obtain ⟨b18, hf⟩ := ab_guard hf
      refine ab_iald (pc2 := 91) hq17 (T16 q17 hq17) (ab_in_vp b18) dX12_town_90 rfl ?_
      obtain ⟨q19, hq19, hf⟩ := ab_bind hf
      obtain ⟨b20, hf⟩ := ab_guard hf
      obtain ⟨h21, eh21, hf⟩ := ab_let_x hf
      refine ab_iast (pc2 := 92) hq19 (T15 q19 hq19) (ab_in_vp b20) dX12_town_91 rfl ?_
      refine ab_topH eh21 ?_
      refine ab_iinc (pc2 := 95) (v := _ + 1) (lo2 := [some (va_rf _), none, none, some (.int _), some (.int _), none, none]) dX12_town_92 rfl rfl rfl (by decide) rfl ?_
      refine ab_goto (tgt := 71) dX12_town_95 (by decide) ?_
      exact ab_weak (ih _ _ _ hf) (ab_leS (ab_leN (ab_leN (ab_leS (ab_leS (ab_leN (ab_leN ab_le0)))))))
set_option maxHeartbeats 4000000 in
set_option maxRecDepth 100000 in
theorem x_X12_town_l38 {d : Nat} {t0 : Nat} {r : (Int32 × ab_HP)} (ht0 : (ab_shp t0).1 = 5) : ∀ (n : Nat) (i3 : Int32) (h : ab_HP), f_X12_town_l38 t0 n i3 h = some r → ab_T mX12_town (d + 5) 0 0 0 0 38 [some (va_rf (some t0)), none, none, some (.int i3), none, none, none] [] h (ab_Pi r.1 r.2) := by
  intro n
  induction n with
  | zero =>
    intro i3 h hf
    rw [f_X12_town_l38] at hf
    cases hf
  | succ n ih =>
    intro i3 h hf
    rw [f_X12_town_l38] at hf
    refine ab_aload_n (x := _) (pc2 := 39) dX12_town_38 rfl rfl ?_
    obtain ⟨w9, ew9, hf⟩ := ab_bind hf
    refine ab_callV (pc2 := 42) (st := []) rfl ht0 (by decide) (m_X12_readsStatement (d := (d + 0)) ht0 ew9) mf_X12_readsStatement tw_124 tw_123 ts_X12_readsStatement (Or.inl (by decide +kernel)) dX12_town_39 rfl (by omega) (Nat.le_refl _) (Nat.le_refl _) rfl (Nat.le_of_ble_eq_true rfl) (ab_kPb fun z10 => ?_)
    refine ab_if_ne (tgt := 54) (pc2 := 45) dX12_town_42 (by decide) rfl hf (fun c11 hf => ?_) (fun c11 hf => ?_)
    · refine ab_iinc (pc2 := 57) (v := _ + 1) (lo2 := [some (va_rf _), none, none, some (.int _), none, none, none]) dX12_town_54 rfl rfl rfl (by decide) rfl ?_
      refine ab_aload_n (x := _) (pc2 := 58) dX12_town_57 rfl rfl ?_
      refine ab_getI (pc2 := 61) rfl ht0 fa_X12_73 (by decide) dX12_town_58 rfl ?_
      refine ab_aload_n (x := _) (pc2 := 62) dX12_town_61 rfl rfl ?_
      refine ab_getI (pc2 := 65) rfl ht0 fa_X12_76 (by decide) dX12_town_62 rfl ?_
      refine ab_icmp_lt (tgt := 38) (pc2 := 68) dX12_town_65 (by decide) rfl hf (fun c12 hf => ?_) (fun c12 hf => ?_)
      · exact ab_weak (ih _ _ hf) (ab_leS (ab_leN (ab_leN (ab_leS (ab_leN (ab_leN (ab_leN ab_le0)))))))
      · refine ab_iconst (pc2 := 69) (v := 0) dX12_town_68 rfl ab_k_iconst_0 ?_
        refine ab_istore (pc2 := 71) (lo2 := [some (va_rf _), none, none, some (.int _), some (.int _), none, none]) dX12_town_69 rfl (by decide) rfl ?_
        exact ab_weak (x_X12_town_l71 ht0 _ _ _ _ hf) (ab_leS (ab_leN (ab_leN (ab_leS (ab_leS (ab_leN (ab_leN ab_le0)))))))
    · refine ab_sipush (pc2 := 48) (v := (-1000)) dX12_town_45 rfl ab_k_sipush_m1000 ?_
      refine ab_aload_n (x := _) (pc2 := 49) dX12_town_48 rfl rfl ?_
      refine ab_getI (pc2 := 52) rfl ht0 fa_X12_73 (by decide) dX12_town_49 rfl ?_
      refine ab_isub (pc2 := 53) dX12_town_52 rfl ?_
      cases Option.some.inj hf
      exact ab_retI dX12_town_53 (Or.inl rfl) (Nat.le_refl _) (Nat.le_refl _) ⟨rfl, rfl⟩
set_option maxHeartbeats 4000000 in
set_option maxRecDepth 100000 in
theorem x_X12_town {d : Nat} {t0 : Nat} {i1 : Int32} {h : ab_HP} {r : (Int32 × ab_HP)} (ht0 : (ab_shp t0).1 = 5) (hf : f_X12_town t0 i1 h = some r) : ab_T mX12_town (d + 5) 0 0 0 0 0 [some (va_rf (some t0)), some (.int i1), none, none, none, none, none] [] h (ab_Pi r.1 r.2) := by
  unfold f_X12_town at hf
  refine ab_aload_n (x := _) (pc2 := 1) dX12_town_0 rfl rfl ?_
  refine ab_iload_n (pc2 := 2) dX12_town_1 rfl rfl ?_
  refine ab_iconst (pc2 := 3) (v := 0) dX12_town_2 rfl ab_k_iconst_0 ?_
  obtain ⟨w1, ew1, hf⟩ := ab_bind hf
  refine ab_callV (pc2 := 6) (st := []) rfl ht0 (by decide) (m_X12_wrongRow (d := (d + 2)) ht0 ew1) mf_X12_wrongRow tw_122 tw_121 ts_X12_wrongRow (Or.inl (by decide +kernel)) dX12_town_3 rfl (by omega) (Nat.le_refl _) (Nat.le_refl _) rfl (Nat.le_of_ble_eq_true rfl) (ab_kPi ?_)
  refine ab_istore_n (pc2 := 7) (lo2 := [some (va_rf _), some (.int _), some (.int _), none, none, none, none]) dX12_town_6 rfl (by decide) rfl ?_
  refine ab_iload_n (pc2 := 8) dX12_town_7 rfl rfl ?_
  refine ab_if_eq (tgt := 13) (pc2 := 11) dX12_town_8 (by decide) rfl hf (fun c2 hf => ?_) (fun c2 hf => ?_)
  · refine ab_aload_n (x := _) (pc2 := 14) dX12_town_13 rfl rfl ?_
    refine ab_bipush (pc2 := 16) (v := 100) dX12_town_14 rfl ab_k_bipush_100 ?_
    refine ab_iload_n (pc2 := 17) dX12_town_16 rfl rfl ?_
    refine ab_imul (pc2 := 18) dX12_town_17 rfl ?_
    obtain ⟨h3, eh3, hf⟩ := ab_let_x hf
    refine ab_putI (pc2 := 21) rfl ht0 fa_X12_79 (Or.inl rfl) (fun z => by cases z) dX12_town_18 rfl ?_
    refine ab_topH eh3 ?_
    refine ab_aload_n (x := _) (pc2 := 22) dX12_town_21 rfl rfl ?_
    refine ab_aload_n (x := _) (pc2 := 23) dX12_town_22 rfl rfl ?_
    refine ab_getR (pc2 := 26) rfl ht0 fa_X12_25 dX12_town_23 rfl (fun T4 => ?_)
    refine ab_iload_n (pc2 := 27) dX12_town_26 rfl rfl ?_
    obtain ⟨q5, hq5, hf⟩ := ab_bind hf
    obtain ⟨b6, hf⟩ := ab_guard hf
    refine ab_iald (pc2 := 28) hq5 (T4 q5 hq5) (ab_in_vp b6) dX12_town_27 rfl ?_
    obtain ⟨h7, eh7, hf⟩ := ab_let_x hf
    refine ab_putI (pc2 := 31) rfl ht0 fa_X12_76 (Or.inl rfl) (fun z => by cases z) dX12_town_28 rfl ?_
    refine ab_topH eh7 ?_
    refine ab_aload_n (x := _) (pc2 := 32) dX12_town_31 rfl rfl ?_
    refine ab_iconst (pc2 := 33) (v := 0) dX12_town_32 rfl ab_k_iconst_0 ?_
    obtain ⟨h8, eh8, hf⟩ := ab_let_x hf
    refine ab_putI (pc2 := 36) rfl ht0 fa_X12_73 (Or.inl rfl) (fun z => by cases z) dX12_town_33 rfl ?_
    refine ab_topH eh8 ?_
    refine ab_iconst (pc2 := 37) (v := 0) dX12_town_36 rfl ab_k_iconst_0 ?_
    refine ab_istore_n (pc2 := 38) (lo2 := [some (va_rf _), some (.int _), some (.int _), some (.int _), none, none, none]) dX12_town_37 rfl (by decide) rfl ?_
    exact ab_weak (x_X12_town_l38 ht0 _ _ _ hf) (ab_leS (ab_leN (ab_leN (ab_leS (ab_leN (ab_leN (ab_leN ab_le0)))))))
  · refine ab_iload_n (pc2 := 12) dX12_town_11 rfl rfl ?_
    cases Option.some.inj hf
    exact ab_retI dX12_town_12 (Or.inl rfl) (Nat.le_refl _) (Nat.le_refl _) ⟨rfl, rfl⟩
set_option maxHeartbeats 4000000 in
set_option maxRecDepth 100000 in
theorem m_X12_town {d : Nat} {t0 : Nat} {i1 : Int32} {h : ab_HP} {r : (Int32 × ab_HP)} (ht0 : (ab_shp t0).1 = 5) (hf : f_X12_town t0 i1 h = some r) : ab_MET mX12_town (d + 5) 0 0 [va_rf (some t0), .int i1] h (ab_Pi r.1 r.2) := ab_met (by decide +kernel) (by decide +kernel) (Nat.le_of_ble_eq_true rfl) rfl (x_X12_town ht0 hf)
set_option maxHeartbeats 4000000 in
set_option maxRecDepth 100000 in
theorem x_X12_isDeed {d : Nat} {t0 : Nat} {i1 : Int32} {h : ab_HP} {r : Int32} (ht0 : (ab_shp t0).1 = 5) (hf : f_X12_isDeed t0 i1 h = some r) : ab_T mX12_isDeed (d + 1) 0 0 0 0 0 [some (va_rf (some t0)), some (.int i1)] [] h (ab_Pb r h) := by
  unfold f_X12_isDeed at hf
  refine ab_iload_n (pc2 := 1) dX12_isDeed_0 rfl rfl ?_
  refine ab_i2l (pc2 := 2) dX12_isDeed_1 rfl ?_
  refine ab_lconst (pc2 := 3) (v := 0) dX12_isDeed_2 rfl rfl ?_
  refine ab_aload_n (x := _) (pc2 := 4) dX12_isDeed_3 rfl rfl ?_
  refine ab_getR (pc2 := 7) rfl ht0 fa_X12_9 dX12_isDeed_4 rfl (fun T1 => ?_)
  refine ab_bipush (pc2 := 9) (v := 6) dX12_isDeed_7 rfl ab_k_bipush_6 ?_
  obtain ⟨q2, hq2, hf⟩ := ab_bind hf
  obtain ⟨b3, hf⟩ := ab_guard hf
  refine ab_iald (pc2 := 10) hq2 (T1 q2 hq2) (ab_in_vp b3) dX12_isDeed_9 rfl ?_
  refine ab_iconst (pc2 := 11) (v := 1) dX12_isDeed_10 rfl ab_k_iconst_1 ?_
  refine ab_isub (pc2 := 12) dX12_isDeed_11 rfl ?_
  refine ab_i2l (pc2 := 13) dX12_isDeed_12 rfl ?_
  obtain ⟨w4, ew4, hf⟩ := ab_bind hf
  refine ab_callS (pc2 := 16) (st := []) (m_X12_isIn (d := (d + 0)) ew4) mf_X12_isIn tw_101 tw_102 dX12_isDeed_13 rfl (by omega) (Nat.le_refl _) (Nat.le_refl _) rfl (Nat.le_of_ble_eq_true rfl) (ab_kPb fun z5 => ?_)
  cases Option.some.inj hf
  exact ab_retI dX12_isDeed_16 (Or.inr ⟨rfl, z5⟩) (Nat.le_refl _) (Nat.le_refl _) ⟨rfl, rfl, z5⟩
set_option maxHeartbeats 4000000 in
set_option maxRecDepth 100000 in
theorem m_X12_isDeed {d : Nat} {t0 : Nat} {i1 : Int32} {h : ab_HP} {r : Int32} (ht0 : (ab_shp t0).1 = 5) (hf : f_X12_isDeed t0 i1 h = some r) : ab_MET mX12_isDeed (d + 1) 0 0 [va_rf (some t0), .int i1] h (ab_Pb r h) := ab_met (by decide +kernel) (by decide +kernel) (Nat.le_of_ble_eq_true rfl) rfl (x_X12_isDeed ht0 hf)
set_option maxHeartbeats 4000000 in
set_option maxRecDepth 100000 in
theorem x_X12_get {d : Nat} {t0 : Nat} {i1 : Int32} {i2 : Int32} {h : ab_HP} {r : Int32} (ht0 : (ab_shp t0).1 = 5) (hf : f_X12_get t0 i1 i2 h = some r) : ab_T mX12_get (d + 0) 0 0 0 0 0 [some (va_rf (some t0)), some (.int i1), some (.int i2)] [] h (ab_Pi r h) := by
  unfold f_X12_get at hf
  refine ab_aload_n (x := _) (pc2 := 1) dX12_get_0 rfl rfl ?_
  refine ab_getR (pc2 := 4) rfl ht0 fa_X12_9 dX12_get_1 rfl (fun T1 => ?_)
  refine ab_bipush (pc2 := 6) (v := 7) dX12_get_4 rfl ab_k_bipush_7 ?_
  refine ab_iconst (pc2 := 7) (v := 5) dX12_get_6 rfl ab_k_iconst_5 ?_
  refine ab_iload_n (pc2 := 8) dX12_get_7 rfl rfl ?_
  refine ab_imul (pc2 := 9) dX12_get_8 rfl ?_
  refine ab_iadd (pc2 := 10) dX12_get_9 rfl ?_
  refine ab_iload_n (pc2 := 11) dX12_get_10 rfl rfl ?_
  refine ab_iadd (pc2 := 12) dX12_get_11 rfl ?_
  obtain ⟨q2, hq2, hf⟩ := ab_bind hf
  obtain ⟨b3, hf⟩ := ab_guard hf
  refine ab_iald (pc2 := 13) hq2 (T1 q2 hq2) (ab_in_vp b3) dX12_get_12 rfl ?_
  cases Option.some.inj hf
  exact ab_retI dX12_get_13 (Or.inl rfl) (Nat.le_refl _) (Nat.le_refl _) ⟨rfl, rfl⟩
set_option maxHeartbeats 4000000 in
set_option maxRecDepth 100000 in
theorem m_X12_get {d : Nat} {t0 : Nat} {i1 : Int32} {i2 : Int32} {h : ab_HP} {r : Int32} (ht0 : (ab_shp t0).1 = 5) (hf : f_X12_get t0 i1 i2 h = some r) : ab_MET mX12_get (d + 0) 0 0 [va_rf (some t0), .int i1, .int i2] h (ab_Pi r h) := ab_met (by decide +kernel) (by decide +kernel) (Nat.le_of_ble_eq_true rfl) rfl (x_X12_get ht0 hf)
set_option maxHeartbeats 4000000 in
set_option maxRecDepth 100000 in
theorem x_X12_costOf {d : Nat} {t0 : Nat} {i1 : Int32} {h : ab_HP} {r : Int32} (ht0 : (ab_shp t0).1 = 5) (hf : f_X12_costOf t0 i1 h = some r) : ab_T mX12_costOf (d + 1) 0 0 0 0 0 [some (va_rf (some t0)), some (.int i1), none] [] h (ab_Pi r h) := by
  unfold f_X12_costOf at hf
  refine ab_aload_n (x := _) (pc2 := 1) dX12_costOf_0 rfl rfl ?_
  refine ab_iload_n (pc2 := 2) dX12_costOf_1 rfl rfl ?_
  refine ab_iconst (pc2 := 3) (v := 3) dX12_costOf_2 rfl ab_k_iconst_3 ?_
  obtain ⟨w1, ew1, hf⟩ := ab_bind hf
  refine ab_callV (pc2 := 6) (st := []) rfl ht0 (by decide) (m_X12_get (d := (d + 0)) ht0 ew1) mf_X12_get tw_129 tw_128 ts_X12_get (Or.inl (by decide +kernel)) dX12_costOf_3 rfl (by omega) (Nat.le_refl _) (Nat.le_refl _) rfl (Nat.le_of_ble_eq_true rfl) (ab_kPi ?_)
  refine ab_istore_n (pc2 := 7) (lo2 := [some (va_rf _), some (.int _), some (.int _)]) dX12_costOf_6 rfl (by decide) rfl ?_
  refine ab_aload_n (x := _) (pc2 := 8) dX12_costOf_7 rfl rfl ?_
  refine ab_iload_n (pc2 := 9) dX12_costOf_8 rfl rfl ?_
  refine ab_iconst (pc2 := 10) (v := 0) dX12_costOf_9 rfl ab_k_iconst_0 ?_
  obtain ⟨w2, ew2, hf⟩ := ab_bind hf
  refine ab_callV (pc2 := 13) (st := []) rfl ht0 (by decide) (m_X12_get (d := (d + 0)) ht0 ew2) mf_X12_get tw_129 tw_128 ts_X12_get (Or.inl (by decide +kernel)) dX12_costOf_10 rfl (by omega) (Nat.le_refl _) (Nat.le_refl _) rfl (Nat.le_of_ble_eq_true rfl) (ab_kPi ?_)
  rcases ab_cas hf with ⟨s3, hf⟩ | ⟨s3, hf⟩
  · refine ab_tswK (tgt := 56) (off := 43) dX12_costOf_13 s3 (by decide) (by decide) (by decide +kernel) (by decide) ?_
    refine ab_iload_n (pc2 := 57) dX12_costOf_56 rfl rfl ?_
    refine ab_aload_n (x := _) (pc2 := 58) dX12_costOf_57 rfl rfl ?_
    refine ab_iload_n (pc2 := 59) dX12_costOf_58 rfl rfl ?_
    refine ab_iconst (pc2 := 60) (v := 4) dX12_costOf_59 rfl ab_k_iconst_4 ?_
    obtain ⟨w4, ew4, hf⟩ := ab_bind hf
    refine ab_callV (pc2 := 63) (st := [_]) rfl ht0 (by decide) (m_X12_get (d := (d + 0)) ht0 ew4) mf_X12_get tw_129 tw_128 ts_X12_get (Or.inl (by decide +kernel)) dX12_costOf_60 rfl (by omega) (Nat.le_refl _) (Nat.le_refl _) rfl (Nat.le_of_ble_eq_true rfl) (ab_kPi ?_)
    refine ab_iadd (pc2 := 64) dX12_costOf_63 rfl ?_
    cases Option.some.inj hf
    exact ab_retI dX12_costOf_64 (Or.inl rfl) (Nat.le_refl _) (Nat.le_refl _) ⟨rfl, rfl⟩
  rcases ab_cas hf with ⟨s5, hf⟩ | ⟨s5, hf⟩
  · refine ab_tswK (tgt := 65) (off := 52) dX12_costOf_13 s5 (by decide) (by decide) (by decide +kernel) (by decide) ?_
    refine ab_iload_n (pc2 := 66) dX12_costOf_65 rfl rfl ?_
    refine ab_iconst (pc2 := 67) (v := 2) dX12_costOf_66 rfl ab_k_iconst_2 ?_
    refine ab_idiv (pc2 := 68) dX12_costOf_67 rfl (by decide) ?_
    cases Option.some.inj hf
    exact ab_retI dX12_costOf_68 (Or.inl rfl) (Nat.le_refl _) (Nat.le_refl _) ⟨rfl, rfl⟩
  rcases ab_cas hf with ⟨s6, hf⟩ | ⟨s6, hf⟩
  · refine ab_tswK (tgt := 69) (off := 56) dX12_costOf_13 s6 (by decide) (by decide) (by decide +kernel) (by decide) ?_
    refine ab_iconst (pc2 := 70) (v := 0) dX12_costOf_69 rfl ab_k_iconst_0 ?_
    cases Option.some.inj hf
    exact ab_retI dX12_costOf_70 (Or.inl rfl) (Nat.le_refl _) (Nat.le_refl _) ⟨rfl, rfl⟩
  rcases ab_cas hf with ⟨s7, hf⟩ | ⟨s7, hf⟩
  · refine ab_tswK (tgt := 71) (off := 58) dX12_costOf_13 s7 (by decide) (by decide) (by decide +kernel) (by decide) ?_
    refine ab_iload_n (pc2 := 72) dX12_costOf_71 rfl rfl ?_
    refine ab_aload_n (x := _) (pc2 := 73) dX12_costOf_72 rfl rfl ?_
    refine ab_iload_n (pc2 := 74) dX12_costOf_73 rfl rfl ?_
    refine ab_iconst (pc2 := 75) (v := 4) dX12_costOf_74 rfl ab_k_iconst_4 ?_
    obtain ⟨w8, ew8, hf⟩ := ab_bind hf
    refine ab_callV (pc2 := 78) (st := [_]) rfl ht0 (by decide) (m_X12_get (d := (d + 0)) ht0 ew8) mf_X12_get tw_129 tw_128 ts_X12_get (Or.inl (by decide +kernel)) dX12_costOf_75 rfl (by omega) (Nat.le_refl _) (Nat.le_refl _) rfl (Nat.le_of_ble_eq_true rfl) (ab_kPi ?_)
    refine ab_iadd (pc2 := 79) dX12_costOf_78 rfl ?_
    refine ab_iconst (pc2 := 80) (v := 5) dX12_costOf_79 rfl ab_k_iconst_5 ?_
    refine ab_iadd (pc2 := 81) dX12_costOf_80 rfl ?_
    cases Option.some.inj hf
    exact ab_retI dX12_costOf_81 (Or.inl rfl) (Nat.le_refl _) (Nat.le_refl _) ⟨rfl, rfl⟩
  rcases ab_cas hf with ⟨s9, hf⟩ | ⟨s9, hf⟩
  · refine ab_tswK (tgt := 69) (off := 56) dX12_costOf_13 s9 (by decide) (by decide) (by decide +kernel) (by decide) ?_
    refine ab_iconst (pc2 := 70) (v := 0) dX12_costOf_69 rfl ab_k_iconst_0 ?_
    cases Option.some.inj hf
    exact ab_retI dX12_costOf_70 (Or.inl rfl) (Nat.le_refl _) (Nat.le_refl _) ⟨rfl, rfl⟩
  have s3n := lv_neT s3 (by decide : (1 : Int32).toInt = 1)
  have s5n := lv_neT s5 (by decide : (3 : Int32).toInt = 3)
  have s6n := lv_neT s6 (by decide : (4 : Int32).toInt = 4)
  have s7n := lv_neT s7 (by decide : (5 : Int32).toInt = 5)
  have s9n := lv_neT s9 (by decide : (7 : Int32).toInt = 7)
  refine ab_tswD (tgt := 82) dX12_costOf_13 (by decide) (fun j hj e => by
    have hj : j < 7 := hj
    rcases (by omega : j = 0 ∨ j = 1 ∨ j = 2 ∨ j = 3 ∨ j = 4 ∨ j = 5 ∨ j = 6) with rfl | rfl | rfl | rfl | rfl | rfl | rfl
    · exact absurd e (by omega)
    · rfl
    · exact absurd e (by omega)
    · exact absurd e (by omega)
    · exact absurd e (by omega)
    · rfl
    · exact absurd e (by omega)) (by decide) ?_
  refine ab_iload_n (pc2 := 83) dX12_costOf_82 rfl rfl ?_
  cases Option.some.inj hf
  exact ab_retI dX12_costOf_83 (Or.inl rfl) (Nat.le_refl _) (Nat.le_refl _) ⟨rfl, rfl⟩
set_option maxHeartbeats 4000000 in
set_option maxRecDepth 100000 in
theorem m_X12_costOf {d : Nat} {t0 : Nat} {i1 : Int32} {h : ab_HP} {r : Int32} (ht0 : (ab_shp t0).1 = 5) (hf : f_X12_costOf t0 i1 h = some r) : ab_MET mX12_costOf (d + 1) 0 0 [va_rf (some t0), .int i1] h (ab_Pi r h) := ab_met (by decide +kernel) (by decide +kernel) (Nat.le_of_ble_eq_true rfl) rfl (x_X12_costOf ht0 hf)
set_option maxHeartbeats 4000000 in
set_option maxRecDepth 100000 in
theorem x_X12_backOf_b48 {d : Nat} {t0 : Nat} {i1 : Int32} {h : ab_HP} {r : Int32} (ht0 : (ab_shp t0).1 = 5) (hf : f_X12_backOf_b48 t0 i1 h = some r) : ab_T mX12_backOf (d + 2) 0 0 0 0 48 [some (va_rf (some t0)), some (.int i1)] [] h (ab_Pi r h) := by
  unfold f_X12_backOf_b48 at hf
  refine ab_aload_n (x := _) (pc2 := 49) dX12_backOf_48 rfl rfl ?_
  refine ab_iload_n (pc2 := 50) dX12_backOf_49 rfl rfl ?_
  obtain ⟨w9, ew9, hf⟩ := ab_bind hf
  refine ab_callV (pc2 := 53) (st := []) rfl ht0 (by decide) (m_X12_costOf (d := (d + 0)) ht0 ew9) mf_X12_costOf tw_131 tw_130 ts_X12_costOf (Or.inl (by decide +kernel)) dX12_backOf_50 rfl (by omega) (Nat.le_refl _) (Nat.le_refl _) rfl (Nat.le_of_ble_eq_true rfl) (ab_kPi ?_)
  refine ab_iconst (pc2 := 54) (v := 2) dX12_backOf_53 rfl ab_k_iconst_2 ?_
  refine ab_idiv (pc2 := 55) dX12_backOf_54 rfl (by decide) ?_
  cases Option.some.inj hf
  exact ab_retI dX12_backOf_55 (Or.inl rfl) (Nat.le_refl _) (Nat.le_refl _) ⟨rfl, rfl⟩
set_option maxHeartbeats 4000000 in
set_option maxRecDepth 100000 in
theorem x_X12_backOf_b65 {d : Nat} {t0 : Nat} {i1 : Int32} {h : ab_HP} {r : Int32} (ht0 : (ab_shp t0).1 = 5) (hf : f_X12_backOf_b65 t0 i1 h = some r) : ab_T mX12_backOf (d + 2) 0 0 0 0 65 [some (va_rf (some t0)), some (.int i1)] [] h (ab_Pi r h) := by
  unfold f_X12_backOf_b65 at hf
  refine ab_aload_n (x := _) (pc2 := 66) dX12_backOf_65 rfl rfl ?_
  refine ab_iload_n (pc2 := 67) dX12_backOf_66 rfl rfl ?_
  obtain ⟨w10, ew10, hf⟩ := ab_bind hf
  refine ab_callV (pc2 := 70) (st := []) rfl ht0 (by decide) (m_X12_costOf (d := (d + 0)) ht0 ew10) mf_X12_costOf tw_131 tw_130 ts_X12_costOf (Or.inl (by decide +kernel)) dX12_backOf_67 rfl (by omega) (Nat.le_refl _) (Nat.le_refl _) rfl (Nat.le_of_ble_eq_true rfl) (ab_kPi ?_)
  cases Option.some.inj hf
  exact ab_retI dX12_backOf_70 (Or.inl rfl) (Nat.le_refl _) (Nat.le_refl _) ⟨rfl, rfl⟩
set_option maxHeartbeats 4000000 in
set_option maxRecDepth 100000 in
theorem x_X12_backOf {d : Nat} {t0 : Nat} {i1 : Int32} {h : ab_HP} {r : Int32} (ht0 : (ab_shp t0).1 = 5) (hf : f_X12_backOf t0 i1 h = some r) : ab_T mX12_backOf (d + 2) 0 0 0 0 0 [some (va_rf (some t0)), some (.int i1)] [] h (ab_Pi r h) := by
  unfold f_X12_backOf at hf
  refine ab_aload_n (x := _) (pc2 := 1) dX12_backOf_0 rfl rfl ?_
  refine ab_iload_n (pc2 := 2) dX12_backOf_1 rfl rfl ?_
  refine ab_iconst (pc2 := 3) (v := 0) dX12_backOf_2 rfl ab_k_iconst_0 ?_
  obtain ⟨w1, ew1, hf⟩ := ab_bind hf
  refine ab_callV (pc2 := 6) (st := []) rfl ht0 (by decide) (m_X12_get (d := (d + 1)) ht0 ew1) mf_X12_get tw_129 tw_128 ts_X12_get (Or.inl (by decide +kernel)) dX12_backOf_3 rfl (by omega) (Nat.le_refl _) (Nat.le_refl _) rfl (Nat.le_of_ble_eq_true rfl) (ab_kPi ?_)
  rcases ab_cas hf with ⟨s2, hf⟩ | ⟨s2, hf⟩
  · refine ab_tswK (tgt := 48) (off := 42) dX12_backOf_6 s2 (by decide) (by decide) (by decide +kernel) (by decide) ?_
    exact ab_weak (x_X12_backOf_b48 ht0 hf) (ab_leS (ab_leS ab_le0))
  rcases ab_cas hf with ⟨s3, hf⟩ | ⟨s3, hf⟩
  · refine ab_tswK (tgt := 56) (off := 50) dX12_backOf_6 s3 (by decide) (by decide) (by decide +kernel) (by decide) ?_
    refine ab_iconst (pc2 := 57) (v := 0) dX12_backOf_56 rfl ab_k_iconst_0 ?_
    cases Option.some.inj hf
    exact ab_retI dX12_backOf_57 (Or.inl rfl) (Nat.le_refl _) (Nat.le_refl _) ⟨rfl, rfl⟩
  rcases ab_cas hf with ⟨s4, hf⟩ | ⟨s4, hf⟩
  · refine ab_tswK (tgt := 58) (off := 52) dX12_backOf_6 s4 (by decide) (by decide) (by decide +kernel) (by decide) ?_
    refine ab_aload_n (x := _) (pc2 := 59) dX12_backOf_58 rfl rfl ?_
    refine ab_iload_n (pc2 := 60) dX12_backOf_59 rfl rfl ?_
    refine ab_iconst (pc2 := 61) (v := 4) dX12_backOf_60 rfl ab_k_iconst_4 ?_
    obtain ⟨w5, ew5, hf⟩ := ab_bind hf
    refine ab_callV (pc2 := 64) (st := []) rfl ht0 (by decide) (m_X12_get (d := (d + 1)) ht0 ew5) mf_X12_get tw_129 tw_128 ts_X12_get (Or.inl (by decide +kernel)) dX12_backOf_61 rfl (by omega) (Nat.le_refl _) (Nat.le_refl _) rfl (Nat.le_of_ble_eq_true rfl) (ab_kPi ?_)
    cases Option.some.inj hf
    exact ab_retI dX12_backOf_64 (Or.inl rfl) (Nat.le_refl _) (Nat.le_refl _) ⟨rfl, rfl⟩
  rcases ab_cas hf with ⟨s6, hf⟩ | ⟨s6, hf⟩
  · refine ab_tswK (tgt := 56) (off := 50) dX12_backOf_6 s6 (by decide) (by decide) (by decide +kernel) (by decide) ?_
    refine ab_iconst (pc2 := 57) (v := 0) dX12_backOf_56 rfl ab_k_iconst_0 ?_
    cases Option.some.inj hf
    exact ab_retI dX12_backOf_57 (Or.inl rfl) (Nat.le_refl _) (Nat.le_refl _) ⟨rfl, rfl⟩
  rcases ab_cas hf with ⟨s7, hf⟩ | ⟨s7, hf⟩
  · refine ab_tswK (tgt := 48) (off := 42) dX12_backOf_6 s7 (by decide) (by decide) (by decide +kernel) (by decide) ?_
    exact ab_weak (x_X12_backOf_b48 ht0 hf) (ab_leS (ab_leS ab_le0))
  rcases ab_cas hf with ⟨s8, hf⟩ | ⟨s8, hf⟩
  · refine ab_tswK (tgt := 56) (off := 50) dX12_backOf_6 s8 (by decide) (by decide) (by decide +kernel) (by decide) ?_
    refine ab_iconst (pc2 := 57) (v := 0) dX12_backOf_56 rfl ab_k_iconst_0 ?_
    cases Option.some.inj hf
    exact ab_retI dX12_backOf_57 (Or.inl rfl) (Nat.le_refl _) (Nat.le_refl _) ⟨rfl, rfl⟩
  have s2n := lv_neT s2 (by decide : (1 : Int32).toInt = 1)
  have s3n := lv_neT s3 (by decide : (2 : Int32).toInt = 2)
  have s4n := lv_neT s4 (by decide : (3 : Int32).toInt = 3)
  have s6n := lv_neT s6 (by decide : (4 : Int32).toInt = 4)
  have s7n := lv_neT s7 (by decide : (5 : Int32).toInt = 5)
  have s8n := lv_neT s8 (by decide : (7 : Int32).toInt = 7)
  refine ab_tswD (tgt := 65) dX12_backOf_6 (by decide) (fun j hj e => by
    have hj : j < 7 := hj
    rcases (by omega : j = 0 ∨ j = 1 ∨ j = 2 ∨ j = 3 ∨ j = 4 ∨ j = 5 ∨ j = 6) with rfl | rfl | rfl | rfl | rfl | rfl | rfl
    · exact absurd e (by omega)
    · exact absurd e (by omega)
    · exact absurd e (by omega)
    · exact absurd e (by omega)
    · exact absurd e (by omega)
    · rfl
    · exact absurd e (by omega)) (by decide) ?_
  exact ab_weak (x_X12_backOf_b65 ht0 hf) (ab_leS (ab_leS ab_le0))
set_option maxHeartbeats 4000000 in
set_option maxRecDepth 100000 in
theorem m_X12_backOf {d : Nat} {t0 : Nat} {i1 : Int32} {h : ab_HP} {r : Int32} (ht0 : (ab_shp t0).1 = 5) (hf : f_X12_backOf t0 i1 h = some r) : ab_MET mX12_backOf (d + 2) 0 0 [va_rf (some t0), .int i1] h (ab_Pi r h) := ab_met (by decide +kernel) (by decide +kernel) (Nat.le_of_ble_eq_true rfl) rfl (x_X12_backOf ht0 hf)
set_option maxHeartbeats 4000000 in
set_option maxRecDepth 100000 in
theorem x_X12_isKept_b42 {d : Nat} {t0 : Nat} {i1 : Int32} {h : ab_HP} {r : Int32} (ht0 : (ab_shp t0).1 = 5) (hf : f_X12_isKept_b42 t0 i1 h = some r) : ab_T mX12_isKept (d + 1) 0 0 0 0 42 [some (va_rf (some t0)), some (.int i1), none] [] h (ab_Pb r h) := by
  unfold f_X12_isKept_b42 at hf
  refine ab_aload_n (x := _) (pc2 := 43) dX12_isKept_42 rfl rfl ?_
  refine ab_iload_n (pc2 := 44) dX12_isKept_43 rfl rfl ?_
  refine ab_iconst (pc2 := 45) (v := 4) dX12_isKept_44 rfl ab_k_iconst_4 ?_
  obtain ⟨w7, ew7, hf⟩ := ab_bind hf
  refine ab_callV (pc2 := 48) (st := []) rfl ht0 (by decide) (m_X12_get (d := (d + 0)) ht0 ew7) mf_X12_get tw_129 tw_128 ts_X12_get (Or.inl (by decide +kernel)) dX12_isKept_45 rfl (by omega) (Nat.le_refl _) (Nat.le_refl _) rfl (Nat.le_of_ble_eq_true rfl) (ab_kPi ?_)
  refine ab_iconst (pc2 := 49) (v := 5) dX12_isKept_48 rfl ab_k_iconst_5 ?_
  refine ab_icmp_lt (tgt := 56) (pc2 := 52) dX12_isKept_49 (by decide) rfl hf (fun c8 hf => ?_) (fun c8 hf => ?_)
  · refine ab_iconst (pc2 := 57) (v := 0) dX12_isKept_56 rfl ab_k_iconst_0 ?_
    cases Option.some.inj hf
    exact ab_retI dX12_isKept_57 (Or.inr ⟨rfl, (Or.inl rfl)⟩) (Nat.le_refl _) (Nat.le_refl _) ⟨rfl, rfl, (Or.inl rfl)⟩
  · refine ab_iconst (pc2 := 53) (v := 1) dX12_isKept_52 rfl ab_k_iconst_1 ?_
    refine ab_goto (tgt := 57) dX12_isKept_53 (by decide) ?_
    cases Option.some.inj hf
    exact ab_retI dX12_isKept_57 (Or.inr ⟨rfl, (Or.inr rfl)⟩) (Nat.le_refl _) (Nat.le_refl _) ⟨rfl, rfl, (Or.inr rfl)⟩
set_option maxHeartbeats 4000000 in
set_option maxRecDepth 100000 in
theorem x_X12_isKept {d : Nat} {t0 : Nat} {i1 : Int32} {h : ab_HP} {r : Int32} (ht0 : (ab_shp t0).1 = 5) (hf : f_X12_isKept t0 i1 h = some r) : ab_T mX12_isKept (d + 1) 0 0 0 0 0 [some (va_rf (some t0)), some (.int i1), none] [] h (ab_Pb r h) := by
  unfold f_X12_isKept at hf
  refine ab_aload_n (x := _) (pc2 := 1) dX12_isKept_0 rfl rfl ?_
  refine ab_iload_n (pc2 := 2) dX12_isKept_1 rfl rfl ?_
  refine ab_iconst (pc2 := 3) (v := 0) dX12_isKept_2 rfl ab_k_iconst_0 ?_
  obtain ⟨w1, ew1, hf⟩ := ab_bind hf
  refine ab_callV (pc2 := 6) (st := []) rfl ht0 (by decide) (m_X12_get (d := (d + 0)) ht0 ew1) mf_X12_get tw_129 tw_128 ts_X12_get (Or.inl (by decide +kernel)) dX12_isKept_3 rfl (by omega) (Nat.le_refl _) (Nat.le_refl _) rfl (Nat.le_of_ble_eq_true rfl) (ab_kPi ?_)
  refine ab_istore_n (pc2 := 7) (lo2 := [some (va_rf _), some (.int _), some (.int _)]) dX12_isKept_6 rfl (by decide) rfl ?_
  refine ab_iload_n (pc2 := 8) dX12_isKept_7 rfl rfl ?_
  refine ab_iconst (pc2 := 9) (v := 5) dX12_isKept_8 rfl ab_k_iconst_5 ?_
  refine ab_icmp_ne (tgt := 31) (pc2 := 12) dX12_isKept_9 (by decide) rfl hf (fun c2 hf => ?_) (fun c2 hf => ?_)
  · refine ab_iload_n (pc2 := 32) dX12_isKept_31 rfl rfl ?_
    refine ab_iconst (pc2 := 33) (v := 4) dX12_isKept_32 rfl ab_k_iconst_4 ?_
    refine ab_icmp_eq (tgt := 42) (pc2 := 36) dX12_isKept_33 (by decide) rfl hf (fun c3 hf => ?_) (fun c3 hf => ?_)
    · exact ab_weak (x_X12_isKept_b42 ht0 hf) (ab_leS (ab_leS (ab_leN ab_le0)))
    · refine ab_iload_n (pc2 := 37) dX12_isKept_36 rfl rfl ?_
      refine ab_bipush (pc2 := 39) (v := 7) dX12_isKept_37 rfl ab_k_bipush_7 ?_
      refine ab_icmp_ne (tgt := 56) (pc2 := 42) dX12_isKept_39 (by decide) rfl hf (fun c4 hf => ?_) (fun c4 hf => ?_)
      · refine ab_iconst (pc2 := 57) (v := 0) dX12_isKept_56 rfl ab_k_iconst_0 ?_
        cases Option.some.inj hf
        exact ab_retI dX12_isKept_57 (Or.inr ⟨rfl, (Or.inl rfl)⟩) (Nat.le_refl _) (Nat.le_refl _) ⟨rfl, rfl, (Or.inl rfl)⟩
      · exact ab_weak (x_X12_isKept_b42 ht0 hf) (ab_leS (ab_leS (ab_leN ab_le0)))
  · refine ab_aload_n (x := _) (pc2 := 13) dX12_isKept_12 rfl rfl ?_
    refine ab_iload_n (pc2 := 14) dX12_isKept_13 rfl rfl ?_
    refine ab_iconst (pc2 := 15) (v := 4) dX12_isKept_14 rfl ab_k_iconst_4 ?_
    obtain ⟨w5, ew5, hf⟩ := ab_bind hf
    refine ab_callV (pc2 := 18) (st := []) rfl ht0 (by decide) (m_X12_get (d := (d + 0)) ht0 ew5) mf_X12_get tw_129 tw_128 ts_X12_get (Or.inl (by decide +kernel)) dX12_isKept_15 rfl (by omega) (Nat.le_refl _) (Nat.le_refl _) rfl (Nat.le_of_ble_eq_true rfl) (ab_kPi ?_)
    refine ab_bipush (pc2 := 20) (v := 9) dX12_isKept_18 rfl ab_k_bipush_9 ?_
    refine ab_icmp_ne (tgt := 27) (pc2 := 23) dX12_isKept_20 (by decide) rfl hf (fun c6 hf => ?_) (fun c6 hf => ?_)
    · refine ab_iconst (pc2 := 28) (v := 0) dX12_isKept_27 rfl ab_k_iconst_0 ?_
      refine ab_goto (tgt := 57) dX12_isKept_28 (by decide) ?_
      cases Option.some.inj hf
      exact ab_retI dX12_isKept_57 (Or.inr ⟨rfl, (Or.inl rfl)⟩) (Nat.le_refl _) (Nat.le_refl _) ⟨rfl, rfl, (Or.inl rfl)⟩
    · refine ab_iconst (pc2 := 24) (v := 1) dX12_isKept_23 rfl ab_k_iconst_1 ?_
      refine ab_goto (tgt := 57) dX12_isKept_24 (by decide) ?_
      cases Option.some.inj hf
      exact ab_retI dX12_isKept_57 (Or.inr ⟨rfl, (Or.inr rfl)⟩) (Nat.le_refl _) (Nat.le_refl _) ⟨rfl, rfl, (Or.inr rfl)⟩
set_option maxHeartbeats 4000000 in
set_option maxRecDepth 100000 in
theorem m_X12_isKept {d : Nat} {t0 : Nat} {i1 : Int32} {h : ab_HP} {r : Int32} (ht0 : (ab_shp t0).1 = 5) (hf : f_X12_isKept t0 i1 h = some r) : ab_MET mX12_isKept (d + 1) 0 0 [va_rf (some t0), .int i1] h (ab_Pb r h) := ab_met (by decide +kernel) (by decide +kernel) (Nat.le_of_ble_eq_true rfl) rfl (x_X12_isKept ht0 hf)
set_option maxHeartbeats 4000000 in
set_option maxRecDepth 100000 in
theorem x_X12_deed {d : Nat} {t0 : Nat} {i1 : Int32} {i2 : Int32} {h : ab_HP} {r : Int32} (ht0 : (ab_shp t0).1 = 5) (hf : f_X12_deed t0 i1 i2 h = some r) : ab_T mX12_deed (d + 3) 0 0 0 0 0 [some (va_rf (some t0)), some (.int i1), some (.int i2)] [] h (ab_Pi r h) := by
  unfold f_X12_deed at hf
  refine ab_aload_n (x := _) (pc2 := 1) dX12_deed_0 rfl rfl ?_
  refine ab_iload_n (pc2 := 2) dX12_deed_1 rfl rfl ?_
  obtain ⟨w1, ew1, hf⟩ := ab_bind hf
  refine ab_callV (pc2 := 5) (st := []) rfl ht0 (by decide) (m_X12_isDeed (d := (d + 1)) ht0 ew1) mf_X12_isDeed tw_133 tw_132 ts_X12_isDeed (Or.inl (by decide +kernel)) dX12_deed_2 rfl (by omega) (Nat.le_refl _) (Nat.le_refl _) rfl (Nat.le_of_ble_eq_true rfl) (ab_kPb fun z2 => ?_)
  refine ab_if_ne (tgt := 10) (pc2 := 8) dX12_deed_5 (by decide) rfl hf (fun c3 hf => ?_) (fun c3 hf => ?_)
  · refine ab_iload_n (pc2 := 11) dX12_deed_10 rfl rfl ?_
    refine ab_i2l (pc2 := 12) dX12_deed_11 rfl ?_
    refine ab_lconst (pc2 := 13) (v := 0) dX12_deed_12 rfl rfl ?_
    refine ab_ldc2 (pc2 := 16) (v := 4) dX12_deed_13 rfl tw_134 ?_
    obtain ⟨w4, ew4, hf⟩ := ab_bind hf
    refine ab_callS (pc2 := 19) (st := []) (m_X12_isIn (d := (d + 2)) ew4) mf_X12_isIn tw_101 tw_102 dX12_deed_16 rfl (by omega) (Nat.le_refl _) (Nat.le_refl _) rfl (Nat.le_of_ble_eq_true rfl) (ab_kPb fun z5 => ?_)
    refine ab_if_eq (tgt := 29) (pc2 := 22) dX12_deed_19 (by decide) rfl hf (fun c6 hf => ?_) (fun c6 hf => ?_)
    · refine ab_iload_n (pc2 := 30) dX12_deed_29 rfl rfl ?_
      refine ab_iconst (pc2 := 31) (v := 5) dX12_deed_30 rfl ab_k_iconst_5 ?_
      refine ab_icmp_ne (tgt := 42) (pc2 := 34) dX12_deed_31 (by decide) rfl hf (fun c7 hf => ?_) (fun c7 hf => ?_)
      · refine ab_iload_n (pc2 := 43) dX12_deed_42 rfl rfl ?_
        refine ab_bipush (pc2 := 45) (v := 6) dX12_deed_43 rfl ab_k_bipush_6 ?_
        refine ab_icmp_ne (tgt := 56) (pc2 := 48) dX12_deed_45 (by decide) rfl hf (fun c8 hf => ?_) (fun c8 hf => ?_)
        · refine ab_iload_n (pc2 := 57) dX12_deed_56 rfl rfl ?_
          refine ab_bipush (pc2 := 59) (v := 7) dX12_deed_57 rfl ab_k_bipush_7 ?_
          refine ab_icmp_ne (tgt := 78) (pc2 := 62) dX12_deed_59 (by decide) rfl hf (fun c9 hf => ?_) (fun c9 hf => ?_)
          · refine ab_iconst (pc2 := 79) (v := (-1)) dX12_deed_78 rfl ab_k_iconst_m1 ?_
            cases Option.some.inj hf
            exact ab_retI dX12_deed_79 (Or.inl rfl) (Nat.le_refl _) (Nat.le_refl _) ⟨rfl, rfl⟩
          · refine ab_aload_n (x := _) (pc2 := 63) dX12_deed_62 rfl rfl ?_
            refine ab_iload_n (pc2 := 64) dX12_deed_63 rfl rfl ?_
            obtain ⟨w10, ew10, hf⟩ := ab_bind hf
            refine ab_callV (pc2 := 67) (st := []) rfl ht0 (by decide) (m_X12_isKept (d := (d + 1)) ht0 ew10) mf_X12_isKept tw_136 tw_135 ts_X12_isKept (Or.inl (by decide +kernel)) dX12_deed_64 rfl (by omega) (Nat.le_refl _) (Nat.le_refl _) rfl (Nat.le_of_ble_eq_true rfl) (ab_kPb fun z11 => ?_)
            refine ab_if_eq (tgt := 74) (pc2 := 70) dX12_deed_67 (by decide) rfl hf (fun c12 hf => ?_) (fun c12 hf => ?_)
            · refine ab_iconst (pc2 := 75) (v := 0) dX12_deed_74 rfl ab_k_iconst_0 ?_
              refine ab_goto (tgt := 79) dX12_deed_75 (by decide) ?_
              cases Option.some.inj hf
              exact ab_retI dX12_deed_79 (Or.inl rfl) (Nat.le_refl _) (Nat.le_refl _) ⟨rfl, rfl⟩
            · refine ab_iconst (pc2 := 71) (v := 1) dX12_deed_70 rfl ab_k_iconst_1 ?_
              refine ab_goto (tgt := 79) dX12_deed_71 (by decide) ?_
              cases Option.some.inj hf
              exact ab_retI dX12_deed_79 (Or.inl rfl) (Nat.le_refl _) (Nat.le_refl _) ⟨rfl, rfl⟩
        · refine ab_aload_n (x := _) (pc2 := 49) dX12_deed_48 rfl rfl ?_
          refine ab_iload_n (pc2 := 50) dX12_deed_49 rfl rfl ?_
          obtain ⟨w13, ew13, hf⟩ := ab_bind hf
          refine ab_callV (pc2 := 53) (st := []) rfl ht0 (by decide) (m_X12_backOf (d := (d + 0)) ht0 ew13) mf_X12_backOf tw_138 tw_137 ts_X12_backOf (Or.inl (by decide +kernel)) dX12_deed_50 rfl (by omega) (Nat.le_refl _) (Nat.le_refl _) rfl (Nat.le_of_ble_eq_true rfl) (ab_kPi ?_)
          refine ab_goto (tgt := 79) dX12_deed_53 (by decide) ?_
          cases Option.some.inj hf
          exact ab_retI dX12_deed_79 (Or.inl rfl) (Nat.le_refl _) (Nat.le_refl _) ⟨rfl, rfl⟩
      · refine ab_aload_n (x := _) (pc2 := 35) dX12_deed_34 rfl rfl ?_
        refine ab_iload_n (pc2 := 36) dX12_deed_35 rfl rfl ?_
        obtain ⟨w14, ew14, hf⟩ := ab_bind hf
        refine ab_callV (pc2 := 39) (st := []) rfl ht0 (by decide) (m_X12_costOf (d := (d + 1)) ht0 ew14) mf_X12_costOf tw_131 tw_130 ts_X12_costOf (Or.inl (by decide +kernel)) dX12_deed_36 rfl (by omega) (Nat.le_refl _) (Nat.le_refl _) rfl (Nat.le_of_ble_eq_true rfl) (ab_kPi ?_)
        refine ab_goto (tgt := 79) dX12_deed_39 (by decide) ?_
        cases Option.some.inj hf
        exact ab_retI dX12_deed_79 (Or.inl rfl) (Nat.le_refl _) (Nat.le_refl _) ⟨rfl, rfl⟩
    · refine ab_aload_n (x := _) (pc2 := 23) dX12_deed_22 rfl rfl ?_
      refine ab_iload_n (pc2 := 24) dX12_deed_23 rfl rfl ?_
      refine ab_iload_n (pc2 := 25) dX12_deed_24 rfl rfl ?_
      obtain ⟨w15, ew15, hf⟩ := ab_bind hf
      refine ab_callV (pc2 := 28) (st := []) rfl ht0 (by decide) (m_X12_get (d := (d + 2)) ht0 ew15) mf_X12_get tw_129 tw_128 ts_X12_get (Or.inl (by decide +kernel)) dX12_deed_25 rfl (by omega) (Nat.le_refl _) (Nat.le_refl _) rfl (Nat.le_of_ble_eq_true rfl) (ab_kPi ?_)
      cases Option.some.inj hf
      exact ab_retI dX12_deed_28 (Or.inl rfl) (Nat.le_refl _) (Nat.le_refl _) ⟨rfl, rfl⟩
  · refine ab_iconst (pc2 := 9) (v := (-1)) dX12_deed_8 rfl ab_k_iconst_m1 ?_
    cases Option.some.inj hf
    exact ab_retI dX12_deed_9 (Or.inl rfl) (Nat.le_refl _) (Nat.le_refl _) ⟨rfl, rfl⟩
set_option maxHeartbeats 4000000 in
set_option maxRecDepth 100000 in
theorem m_X12_deed {d : Nat} {t0 : Nat} {i1 : Int32} {i2 : Int32} {h : ab_HP} {r : Int32} (ht0 : (ab_shp t0).1 = 5) (hf : f_X12_deed t0 i1 i2 h = some r) : ab_MET mX12_deed (d + 3) 0 0 [va_rf (some t0), .int i1, .int i2] h (ab_Pi r h) := ab_met (by decide +kernel) (by decide +kernel) (Nat.le_of_ble_eq_true rfl) rfl (x_X12_deed ht0 hf)
set_option maxHeartbeats 4000000 in
set_option maxRecDepth 100000 in
theorem x_X12_marks {d : Nat} {t0 : Nat} {h : ab_HP} {r : Int32} (ht0 : (ab_shp t0).1 = 5) (hf : f_X12_marks t0 h = some r) : ab_T mX12_marks (d + 0) 0 0 0 0 0 [some (va_rf (some t0))] [] h (ab_Pi r h) := by
  unfold f_X12_marks at hf
  refine ab_aload_n (x := _) (pc2 := 1) dX12_marks_0 rfl rfl ?_
  refine ab_getR (pc2 := 4) rfl ht0 fa_X12_9 dX12_marks_1 rfl (fun T1 => ?_)
  refine ab_iconst (pc2 := 5) (v := 0) dX12_marks_4 rfl ab_k_iconst_0 ?_
  obtain ⟨q2, hq2, hf⟩ := ab_bind hf
  obtain ⟨b3, hf⟩ := ab_guard hf
  refine ab_iald (pc2 := 6) hq2 (T1 q2 hq2) (ab_in_vp b3) dX12_marks_5 rfl ?_
  cases Option.some.inj hf
  exact ab_retI dX12_marks_6 (Or.inl rfl) (Nat.le_refl _) (Nat.le_refl _) ⟨rfl, rfl⟩
set_option maxHeartbeats 4000000 in
set_option maxRecDepth 100000 in
theorem m_X12_marks {d : Nat} {t0 : Nat} {h : ab_HP} {r : Int32} (ht0 : (ab_shp t0).1 = 5) (hf : f_X12_marks t0 h = some r) : ab_MET mX12_marks (d + 0) 0 0 [va_rf (some t0)] h (ab_Pi r h) := ab_met (by decide +kernel) (by decide +kernel) (Nat.le_of_ble_eq_true rfl) rfl (x_X12_marks ht0 hf)
set_option maxHeartbeats 4000000 in
set_option maxRecDepth 100000 in
theorem x_X12_state {d : Nat} {t0 : Nat} {i1 : Int32} {h : ab_HP} {r : Int32} (ht0 : (ab_shp t0).1 = 5) (hf : f_X12_state t0 i1 h = some r) : ab_T mX12_state (d + 1) 0 0 0 0 0 [some (va_rf (some t0)), some (.int i1)] [] h (ab_Pi r h) := by
  unfold f_X12_state at hf
  refine ab_iload_n (pc2 := 1) dX12_state_0 rfl rfl ?_
  refine ab_i2l (pc2 := 2) dX12_state_1 rfl ?_
  refine ab_lconst (pc2 := 3) (v := 0) dX12_state_2 rfl rfl ?_
  refine ab_ldc2 (pc2 := 6) (v := 3) dX12_state_3 rfl tw_139 ?_
  obtain ⟨w1, ew1, hf⟩ := ab_bind hf
  refine ab_callS (pc2 := 9) (st := []) (m_X12_isIn (d := (d + 0)) ew1) mf_X12_isIn tw_101 tw_102 dX12_state_6 rfl (by omega) (Nat.le_refl _) (Nat.le_refl _) rfl (Nat.le_of_ble_eq_true rfl) (ab_kPb fun z2 => ?_)
  refine ab_if_eq (tgt := 23) (pc2 := 12) dX12_state_9 (by decide) rfl hf (fun c3 hf => ?_) (fun c3 hf => ?_)
  · refine ab_iconst (pc2 := 24) (v := (-1)) dX12_state_23 rfl ab_k_iconst_m1 ?_
    cases Option.some.inj hf
    exact ab_retI dX12_state_24 (Or.inl rfl) (Nat.le_refl _) (Nat.le_refl _) ⟨rfl, rfl⟩
  · refine ab_aload_n (x := _) (pc2 := 13) dX12_state_12 rfl rfl ?_
    refine ab_getR (pc2 := 16) rfl ht0 fa_X12_9 dX12_state_13 rfl (fun T4 => ?_)
    refine ab_iconst (pc2 := 17) (v := 1) dX12_state_16 rfl ab_k_iconst_1 ?_
    refine ab_iload_n (pc2 := 18) dX12_state_17 rfl rfl ?_
    refine ab_iadd (pc2 := 19) dX12_state_18 rfl ?_
    obtain ⟨q5, hq5, hf⟩ := ab_bind hf
    obtain ⟨b6, hf⟩ := ab_guard hf
    refine ab_iald (pc2 := 20) hq5 (T4 q5 hq5) (ab_in_vp b6) dX12_state_19 rfl ?_
    refine ab_goto (tgt := 24) dX12_state_20 (by decide) ?_
    cases Option.some.inj hf
    exact ab_retI dX12_state_24 (Or.inl rfl) (Nat.le_refl _) (Nat.le_refl _) ⟨rfl, rfl⟩
set_option maxHeartbeats 4000000 in
set_option maxRecDepth 100000 in
theorem m_X12_state {d : Nat} {t0 : Nat} {i1 : Int32} {h : ab_HP} {r : Int32} (ht0 : (ab_shp t0).1 = 5) (hf : f_X12_state t0 i1 h = some r) : ab_MET mX12_state (d + 1) 0 0 [va_rf (some t0), .int i1] h (ab_Pi r h) := ab_met (by decide +kernel) (by decide +kernel) (Nat.le_of_ble_eq_true rfl) rfl (x_X12_state ht0 hf)
set_option maxHeartbeats 4000000 in
set_option maxRecDepth 100000 in
theorem x_X12_rise {d : Nat} {t0 : Nat} {h : ab_HP} {r : Int32} (ht0 : (ab_shp t0).1 = 5) (hf : f_X12_rise t0 h = some r) : ab_T mX12_rise (d + 0) 0 0 0 0 0 [some (va_rf (some t0))] [] h (ab_Pi r h) := by
  unfold f_X12_rise at hf
  refine ab_aload_n (x := _) (pc2 := 1) dX12_rise_0 rfl rfl ?_
  refine ab_getR (pc2 := 4) rfl ht0 fa_X12_9 dX12_rise_1 rfl (fun T1 => ?_)
  refine ab_iconst (pc2 := 5) (v := 5) dX12_rise_4 rfl ab_k_iconst_5 ?_
  obtain ⟨q2, hq2, hf⟩ := ab_bind hf
  obtain ⟨b3, hf⟩ := ab_guard hf
  refine ab_iald (pc2 := 6) hq2 (T1 q2 hq2) (ab_in_vp b3) dX12_rise_5 rfl ?_
  cases Option.some.inj hf
  exact ab_retI dX12_rise_6 (Or.inl rfl) (Nat.le_refl _) (Nat.le_refl _) ⟨rfl, rfl⟩
set_option maxHeartbeats 4000000 in
set_option maxRecDepth 100000 in
theorem m_X12_rise {d : Nat} {t0 : Nat} {h : ab_HP} {r : Int32} (ht0 : (ab_shp t0).1 = 5) (hf : f_X12_rise t0 h = some r) : ab_MET mX12_rise (d + 0) 0 0 [va_rf (some t0)] h (ab_Pi r h) := ab_met (by decide +kernel) (by decide +kernel) (Nat.le_of_ble_eq_true rfl) rfl (x_X12_rise ht0 hf)
