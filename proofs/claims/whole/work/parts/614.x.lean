set_option maxHeartbeats 4000000 in
set_option maxRecDepth 100000 in
theorem x_X12_evenYear_b183 {d : Nat} {k2 : Int32 → ab_HP → Option ab_HP} {t0 : Nat} {i1 : Int32} {h : ab_HP} {r : ab_HP} (ht0 : (ab_shp t0).1 = 5) (hk2 : ∀ (i1 : Int32) (h : ab_HP), k2 i1 h = some r → ab_T mX12_evenYear (d + 3) 0 0 0 0 2 [some (va_rf (some t0)), some (.int i1), none, none] [] h (ab_Pv r)) (hf : f_X12_evenYear_b183 k2 t0 i1 h = some r) : ab_T mX12_evenYear (d + 3) 0 0 0 0 183 [some (va_rf (some t0)), some (.int i1), none, none] [] h (ab_Pv r) := by
  unfold f_X12_evenYear_b183 at hf
  refine ab_aload_n (x := _) (pc2 := 184) dX12_evenYear_183 rfl rfl ?_
  refine ab_getR (pc2 := 187) rfl ht0 fa_X12_52 dX12_evenYear_184 rfl (fun T63 => ?_)
  refine ab_iload_n (pc2 := 188) dX12_evenYear_187 rfl rfl ?_
  refine ab_aload_n (x := _) (pc2 := 189) dX12_evenYear_188 rfl rfl ?_
  refine ab_getI (pc2 := 192) rfl ht0 fa_X12_175 (by decide) dX12_evenYear_189 rfl ?_
  obtain ⟨q64, hq64, hf⟩ := ab_bind hf
  obtain ⟨b65, hf⟩ := ab_guard hf
  obtain ⟨h66, eh66, hf⟩ := ab_let_x hf
  refine ab_iast (pc2 := 193) hq64 (T63 q64 hq64) (ab_in_vp b65) dX12_evenYear_192 rfl ?_
  refine ab_topH eh66 ?_
  refine ab_iinc (pc2 := 196) (v := _ + 1) (lo2 := [some (va_rf _), some (.int _), none, none]) dX12_evenYear_193 rfl rfl rfl (by decide) rfl ?_
  refine ab_goto (tgt := 2) dX12_evenYear_196 (by decide) ?_
  exact ab_weak (hk2 _ _ hf) (ab_leS (ab_leS (ab_leN (ab_leN ab_le0))))
set_option maxHeartbeats 4000000 in
set_option maxRecDepth 100000 in
theorem x_X12_evenYear_l2 {d : Nat} {t0 : Nat} {r : ab_HP} (ht0 : (ab_shp t0).1 = 5) : ∀ (n : Nat) (i1 : Int32) (h : ab_HP), f_X12_evenYear_l2 t0 n i1 h = some r → ab_T mX12_evenYear (d + 3) 0 0 0 0 2 [some (va_rf (some t0)), some (.int i1), none, none] [] h (ab_Pv r) := by
  intro n
  induction n with
  | zero =>
    intro i1 h hf
    rw [f_X12_evenYear_l2] at hf
    cases hf
  | succ n ih =>
    intro i1 h hf
    rw [f_X12_evenYear_l2] at hf
    refine ab_iload_n (pc2 := 3) dX12_evenYear_2 rfl rfl ?_
    refine ab_aload_n (x := _) (pc2 := 4) dX12_evenYear_3 rfl rfl ?_
    refine ab_getI (pc2 := 7) rfl ht0 fa_X12_166 (by decide) dX12_evenYear_4 rfl ?_
    refine ab_icmp_ge (tgt := 199) (pc2 := 10) dX12_evenYear_7 (by decide) rfl hf (fun c1 hf => ?_) (fun c1 hf => ?_)
    · cases Option.some.inj hf
      exact ab_retV dX12_evenYear_199 rfl (Nat.le_refl _) (Nat.le_refl _) ⟨rfl, rfl⟩
    · refine ab_aload_n (x := _) (pc2 := 11) dX12_evenYear_10 rfl rfl ?_
      refine ab_getR (pc2 := 14) rfl ht0 fa_X12_40 dX12_evenYear_11 rfl (fun T2 => ?_)
      refine ab_iload_n (pc2 := 15) dX12_evenYear_14 rfl rfl ?_
      obtain ⟨q3, hq3, hf⟩ := ab_bind hf
      obtain ⟨b4, hf⟩ := ab_guard hf
      refine ab_iald (pc2 := 16) hq3 (T2 q3 hq3) (ab_in_vp b4) dX12_evenYear_15 rfl ?_
      refine ab_istore_n (pc2 := 17) (lo2 := [some (va_rf _), some (.int _), some (.int _), none]) dX12_evenYear_16 rfl (by decide) rfl ?_
      refine ab_aload_n (x := _) (pc2 := 18) dX12_evenYear_17 rfl rfl ?_
      refine ab_getR (pc2 := 21) rfl ht0 fa_X12_49 dX12_evenYear_18 rfl (fun T5 => ?_)
      refine ab_iload_n (pc2 := 22) dX12_evenYear_21 rfl rfl ?_
      refine ab_iconst (pc2 := 23) (v := 0) dX12_evenYear_22 rfl ab_k_iconst_0 ?_
      obtain ⟨q6, hq6, hf⟩ := ab_bind hf
      obtain ⟨b7, hf⟩ := ab_guard hf
      obtain ⟨h8, eh8, hf⟩ := ab_let_x hf
      refine ab_iast (pc2 := 24) hq6 (T5 q6 hq6) (ab_in_vp b7) dX12_evenYear_23 rfl ?_
      refine ab_topH eh8 ?_
      refine ab_aload_n (x := _) (pc2 := 25) dX12_evenYear_24 rfl rfl ?_
      refine ab_getR (pc2 := 28) rfl ht0 fa_X12_43 dX12_evenYear_25 rfl (fun T9 => ?_)
      refine ab_iload_n (pc2 := 29) dX12_evenYear_28 rfl rfl ?_
      refine ab_iconst (pc2 := 30) (v := 0) dX12_evenYear_29 rfl ab_k_iconst_0 ?_
      obtain ⟨q10, hq10, hf⟩ := ab_bind hf
      obtain ⟨b11, hf⟩ := ab_guard hf
      obtain ⟨h12, eh12, hf⟩ := ab_let_x hf
      refine ab_iast (pc2 := 31) hq10 (T9 q10 hq10) (ab_in_vp b11) dX12_evenYear_30 rfl ?_
      refine ab_topH eh12 ?_
      refine ab_aload_n (x := _) (pc2 := 32) dX12_evenYear_31 rfl rfl ?_
      refine ab_iload_n (pc2 := 33) dX12_evenYear_32 rfl rfl ?_
      refine ab_aload_n (x := _) (pc2 := 34) dX12_evenYear_33 rfl rfl ?_
      refine ab_getI (pc2 := 37) rfl ht0 fa_X12_175 (by decide) dX12_evenYear_34 rfl ?_
      refine ab_aload_n (x := _) (pc2 := 38) dX12_evenYear_37 rfl rfl ?_
      refine ab_getI (pc2 := 41) rfl ht0 fa_X12_178 (by decide) dX12_evenYear_38 rfl ?_
      obtain ⟨w13, ew13, hf⟩ := ab_bind hf
      refine ab_callV (pc2 := 44) (st := []) rfl ht0 (by decide) (m_X12_mayBy (d := (d + 0)) ht0 ew13) mf_X12_mayBy tw_153 tw_152 ts_X12_mayBy (Or.inl (by decide +kernel)) dX12_evenYear_41 rfl (by omega) (Nat.le_refl _) (Nat.le_refl _) rfl (Nat.le_of_ble_eq_true rfl) (ab_kPb fun z14 => ?_)
      refine ab_if_eq (tgt := 183) (pc2 := 47) dX12_evenYear_44 (by decide) rfl hf (fun c15 hf => ?_) (fun c15 hf => ?_)
      · exact ab_weak (x_X12_evenYear_b183 ht0 ih hf) (ab_leS (ab_leS (ab_leN (ab_leN ab_le0))))
      · refine ab_aload_n (x := _) (pc2 := 48) dX12_evenYear_47 rfl rfl ?_
        refine ab_iload_n (pc2 := 49) dX12_evenYear_48 rfl rfl ?_
        refine ab_aload_n (x := _) (pc2 := 50) dX12_evenYear_49 rfl rfl ?_
        refine ab_getI (pc2 := 53) rfl ht0 fa_X12_175 (by decide) dX12_evenYear_50 rfl ?_
        obtain ⟨w16, ew16, hf⟩ := ab_bind hf
        refine ab_callV (pc2 := 56) (st := []) rfl ht0 (by decide) (m_X12_marksBy (d := (d + 1)) ht0 ew16) mf_X12_marksBy tw_208 tw_207 ts_X12_marksBy (Or.inl (by decide +kernel)) dX12_evenYear_53 rfl (by omega) (Nat.le_refl _) (Nat.le_refl _) rfl (Nat.le_of_ble_eq_true rfl) (ab_kPi ?_)
        refine ab_istore_n (pc2 := 57) (lo2 := [some (va_rf _), some (.int _), some (.int _), some (.int _)]) dX12_evenYear_56 rfl (by decide) rfl ?_
        refine ab_aload_n (x := _) (pc2 := 58) dX12_evenYear_57 rfl rfl ?_
        refine ab_getR (pc2 := 61) rfl ht0 fa_X12_43 dX12_evenYear_58 rfl (fun T17 => ?_)
        refine ab_iload_n (pc2 := 62) dX12_evenYear_61 rfl rfl ?_
        refine ab_iload_n (pc2 := 63) dX12_evenYear_62 rfl rfl ?_
        refine ab_aload_n (x := _) (pc2 := 64) dX12_evenYear_63 rfl rfl ?_
        refine ab_getI (pc2 := 67) rfl ht0 fa_X12_175 (by decide) dX12_evenYear_64 rfl ?_
        refine ab_ixor (pc2 := 68) dX12_evenYear_67 rfl ?_
        obtain ⟨q18, hq18, hf⟩ := ab_bind hf
        obtain ⟨b19, hf⟩ := ab_guard hf
        obtain ⟨h20, eh20, hf⟩ := ab_let_x hf
        refine ab_iast (pc2 := 69) hq18 (T17 q18 hq18) (ab_in_vp b19) dX12_evenYear_68 rfl ?_
        refine ab_topH eh20 ?_
        refine ab_aload_n (x := _) (pc2 := 70) dX12_evenYear_69 rfl rfl ?_
        refine ab_getR (pc2 := 73) rfl ht0 fa_X12_46 dX12_evenYear_70 rfl (fun T21 => ?_)
        refine ab_iload_n (pc2 := 74) dX12_evenYear_73 rfl rfl ?_
        refine ab_aload_n (x := _) (pc2 := 75) dX12_evenYear_74 rfl rfl ?_
        refine ab_getI (pc2 := 78) rfl ht0 fa_X12_175 (by decide) dX12_evenYear_75 rfl ?_
        refine ab_aload_n (x := _) (pc2 := 79) dX12_evenYear_78 rfl rfl ?_
        refine ab_getR (pc2 := 82) rfl ht0 fa_X12_43 dX12_evenYear_79 rfl (fun T22 => ?_)
        refine ab_iload_n (pc2 := 83) dX12_evenYear_82 rfl rfl ?_
        obtain ⟨q23, hq23, hf⟩ := ab_bind hf
        obtain ⟨b24, hf⟩ := ab_guard hf
        refine ab_iald (pc2 := 84) hq23 (T22 q23 hq23) (ab_in_vp b24) dX12_evenYear_83 rfl ?_
        refine ab_iand (pc2 := 85) dX12_evenYear_84 rfl ?_
        obtain ⟨q25, hq25, hf⟩ := ab_bind hf
        obtain ⟨b26, hf⟩ := ab_guard hf
        obtain ⟨h27, eh27, hf⟩ := ab_let_x hf
        refine ab_iast (pc2 := 86) hq25 (T21 q25 hq25) (ab_in_vp b26) dX12_evenYear_85 rfl ?_
        refine ab_topH eh27 ?_
        refine ab_aload_n (x := _) (pc2 := 87) dX12_evenYear_86 rfl rfl ?_
        refine ab_iload_n (pc2 := 88) dX12_evenYear_87 rfl rfl ?_
        obtain ⟨h28, eh28, hf⟩ := ab_let_x hf
        refine ab_putI (pc2 := 91) rfl ht0 fa_X12_175 (Or.inl rfl) (fun z => by cases z) dX12_evenYear_88 rfl ?_
        refine ab_topH eh28 ?_
        refine ab_aload_n (x := _) (pc2 := 92) dX12_evenYear_91 rfl rfl ?_
        refine ab_dup (pc2 := 93) dX12_evenYear_92 rfl (ab_rf1 _) ?_
        refine ab_getI (pc2 := 96) rfl ht0 fa_X12_178 (by decide) dX12_evenYear_93 rfl ?_
        refine ab_aload_n (x := _) (pc2 := 97) dX12_evenYear_96 rfl rfl ?_
        refine ab_iload_n (pc2 := 98) dX12_evenYear_97 rfl rfl ?_
        obtain ⟨w29, ew29, hf⟩ := ab_bind hf
        refine ab_callV (pc2 := 101) (st := [_, _]) rfl ht0 (by decide) (m_X12_costOf (d := (d + 1)) ht0 ew29) mf_X12_costOf tw_131 tw_130 ts_X12_costOf (Or.inl (by decide +kernel)) dX12_evenYear_98 rfl (by omega) (Nat.le_refl _) (Nat.le_refl _) rfl (Nat.le_of_ble_eq_true rfl) (ab_kPi ?_)
        refine ab_isub (pc2 := 102) dX12_evenYear_101 rfl ?_
        obtain ⟨h30, eh30, hf⟩ := ab_let_x hf
        refine ab_putI (pc2 := 105) rfl ht0 fa_X12_178 (Or.inl rfl) (fun z => by cases z) dX12_evenYear_102 rfl ?_
        refine ab_topH eh30 ?_
        refine ab_aload_n (x := _) (pc2 := 106) dX12_evenYear_105 rfl rfl ?_
        refine ab_getR (pc2 := 109) rfl ht0 fa_X12_49 dX12_evenYear_106 rfl (fun T31 => ?_)
        refine ab_iload_n (pc2 := 110) dX12_evenYear_109 rfl rfl ?_
        refine ab_aload_n (x := _) (pc2 := 111) dX12_evenYear_110 rfl rfl ?_
        refine ab_iload_n (pc2 := 112) dX12_evenYear_111 rfl rfl ?_
        obtain ⟨w32, ew32, hf⟩ := ab_bind hf
        refine ab_callV (pc2 := 115) (st := [_, _]) rfl ht0 (by decide) (m_X12_isKept (d := (d + 1)) ht0 ew32) mf_X12_isKept tw_136 tw_135 ts_X12_isKept (Or.inl (by decide +kernel)) dX12_evenYear_112 rfl (by omega) (Nat.le_refl _) (Nat.le_refl _) rfl (Nat.le_of_ble_eq_true rfl) (ab_kPb fun z33 => ?_)
        refine ab_if_eq (tgt := 122) (pc2 := 118) dX12_evenYear_115 (by decide) rfl hf (fun c34 hf => ?_) (fun c34 hf => ?_)
        · refine ab_iconst (pc2 := 123) (v := 1) dX12_evenYear_122 rfl ab_k_iconst_1 ?_
          obtain ⟨q35, hq35, hf⟩ := ab_bind hf
          obtain ⟨b36, hf⟩ := ab_guard hf
          obtain ⟨h37, eh37, hf⟩ := ab_let_x hf
          refine ab_iast (pc2 := 124) hq35 (T31 q35 hq35) (ab_in_vp b36) dX12_evenYear_123 rfl ?_
          refine ab_topH eh37 ?_
          refine ab_aload_n (x := _) (pc2 := 125) dX12_evenYear_124 rfl rfl ?_
          refine ab_getI (pc2 := 128) rfl ht0 fa_X12_169 (by decide) dX12_evenYear_125 rfl ?_
          refine ab_iload_n (pc2 := 129) dX12_evenYear_128 rfl rfl ?_
          refine ab_ishr (pc2 := 130) dX12_evenYear_129 rfl ?_
          refine ab_iconst (pc2 := 131) (v := 1) dX12_evenYear_130 rfl ab_k_iconst_1 ?_
          refine ab_iand (pc2 := 132) dX12_evenYear_131 rfl ?_
          refine ab_iconst (pc2 := 133) (v := 1) dX12_evenYear_132 rfl ab_k_iconst_1 ?_
          refine ab_icmp_ne (tgt := 183) (pc2 := 136) dX12_evenYear_133 (by decide) rfl hf (fun c38 hf => ?_) (fun c38 hf => ?_)
          · exact ab_weak (x_X12_evenYear_b183 ht0 ih hf) (ab_leS (ab_leS (ab_leN (ab_leN ab_le0))))
          · refine ab_aload_n (x := _) (pc2 := 137) dX12_evenYear_136 rfl rfl ?_
            refine ab_getI (pc2 := 140) rfl ht0 fa_X12_178 (by decide) dX12_evenYear_137 rfl ?_
            refine ab_aload_n (x := _) (pc2 := 141) dX12_evenYear_140 rfl rfl ?_
            refine ab_iload_n (pc2 := 142) dX12_evenYear_141 rfl rfl ?_
            obtain ⟨w39, ew39, hf⟩ := ab_bind hf
            refine ab_callV (pc2 := 145) (st := [_]) rfl ht0 (by decide) (m_X12_priceOf (d := (d + 2)) ht0 ew39) mf_X12_priceOf tw_210 tw_209 ts_X12_priceOf (Or.inl (by decide +kernel)) dX12_evenYear_142 rfl (by omega) (Nat.le_refl _) (Nat.le_refl _) rfl (Nat.le_of_ble_eq_true rfl) (ab_kPi ?_)
            refine ab_icmp_lt (tgt := 183) (pc2 := 148) dX12_evenYear_145 (by decide) rfl hf (fun c40 hf => ?_) (fun c40 hf => ?_)
            · exact ab_weak (x_X12_evenYear_b183 ht0 ih hf) (ab_leS (ab_leS (ab_leN (ab_leN ab_le0))))
            · refine ab_aload_n (x := _) (pc2 := 149) dX12_evenYear_148 rfl rfl ?_
              refine ab_dup (pc2 := 150) dX12_evenYear_149 rfl (ab_rf1 _) ?_
              refine ab_getI (pc2 := 153) rfl ht0 fa_X12_178 (by decide) dX12_evenYear_150 rfl ?_
              refine ab_aload_n (x := _) (pc2 := 154) dX12_evenYear_153 rfl rfl ?_
              refine ab_iload_n (pc2 := 155) dX12_evenYear_154 rfl rfl ?_
              obtain ⟨w41, ew41, hf⟩ := ab_bind hf
              refine ab_callV (pc2 := 158) (st := [_, _]) rfl ht0 (by decide) (m_X12_priceOf (d := (d + 2)) ht0 ew41) mf_X12_priceOf tw_210 tw_209 ts_X12_priceOf (Or.inl (by decide +kernel)) dX12_evenYear_155 rfl (by omega) (Nat.le_refl _) (Nat.le_refl _) rfl (Nat.le_of_ble_eq_true rfl) (ab_kPi ?_)
              refine ab_isub (pc2 := 159) dX12_evenYear_158 rfl ?_
              obtain ⟨h42, eh42, hf⟩ := ab_let_x hf
              refine ab_putI (pc2 := 162) rfl ht0 fa_X12_178 (Or.inl rfl) (fun z => by cases z) dX12_evenYear_159 rfl ?_
              refine ab_topH eh42 ?_
              refine ab_aload_n (x := _) (pc2 := 163) dX12_evenYear_162 rfl rfl ?_
              refine ab_dup (pc2 := 164) dX12_evenYear_163 rfl (ab_rf1 _) ?_
              refine ab_getI (pc2 := 167) rfl ht0 fa_X12_181 (by decide) dX12_evenYear_164 rfl ?_
              refine ab_aload_n (x := _) (pc2 := 168) dX12_evenYear_167 rfl rfl ?_
              refine ab_iload_n (pc2 := 169) dX12_evenYear_168 rfl rfl ?_
              obtain ⟨w43, ew43, hf⟩ := ab_bind hf
              refine ab_callV (pc2 := 172) (st := [_, _]) rfl ht0 (by decide) (m_X12_priceOf (d := (d + 2)) ht0 ew43) mf_X12_priceOf tw_210 tw_209 ts_X12_priceOf (Or.inl (by decide +kernel)) dX12_evenYear_169 rfl (by omega) (Nat.le_refl _) (Nat.le_refl _) rfl (Nat.le_of_ble_eq_true rfl) (ab_kPi ?_)
              refine ab_iadd (pc2 := 173) dX12_evenYear_172 rfl ?_
              obtain ⟨h44, eh44, hf⟩ := ab_let_x hf
              refine ab_putI (pc2 := 176) rfl ht0 fa_X12_181 (Or.inl rfl) (fun z => by cases z) dX12_evenYear_173 rfl ?_
              refine ab_topH eh44 ?_
              refine ab_aload_n (x := _) (pc2 := 177) dX12_evenYear_176 rfl rfl ?_
              refine ab_getR (pc2 := 180) rfl ht0 fa_X12_49 dX12_evenYear_177 rfl (fun T45 => ?_)
              refine ab_iload_n (pc2 := 181) dX12_evenYear_180 rfl rfl ?_
              refine ab_iconst (pc2 := 182) (v := 2) dX12_evenYear_181 rfl ab_k_iconst_2 ?_
              obtain ⟨q46, hq46, hf⟩ := ab_bind hf
              obtain ⟨b47, hf⟩ := ab_guard hf
              obtain ⟨h48, eh48, hf⟩ := ab_let_x hf
              refine ab_iast (pc2 := 183) hq46 (T45 q46 hq46) (ab_in_vp b47) dX12_evenYear_182 rfl ?_
              refine ab_topH eh48 ?_
              exact ab_weak (x_X12_evenYear_b183 ht0 ih hf) (ab_leS (ab_leS (ab_leN (ab_leN ab_le0))))
        · refine ab_iconst (pc2 := 119) (v := 3) dX12_evenYear_118 rfl ab_k_iconst_3 ?_
          refine ab_goto (tgt := 123) dX12_evenYear_119 (by decide) ?_
          obtain ⟨q49, hq49, hf⟩ := ab_bind hf
          obtain ⟨b50, hf⟩ := ab_guard hf
          obtain ⟨h51, eh51, hf⟩ := ab_let_x hf
          refine ab_iast (pc2 := 124) hq49 (T31 q49 hq49) (ab_in_vp b50) dX12_evenYear_123 rfl ?_
          refine ab_topH eh51 ?_
          refine ab_aload_n (x := _) (pc2 := 125) dX12_evenYear_124 rfl rfl ?_
          refine ab_getI (pc2 := 128) rfl ht0 fa_X12_169 (by decide) dX12_evenYear_125 rfl ?_
          refine ab_iload_n (pc2 := 129) dX12_evenYear_128 rfl rfl ?_
          refine ab_ishr (pc2 := 130) dX12_evenYear_129 rfl ?_
          refine ab_iconst (pc2 := 131) (v := 1) dX12_evenYear_130 rfl ab_k_iconst_1 ?_
          refine ab_iand (pc2 := 132) dX12_evenYear_131 rfl ?_
          refine ab_iconst (pc2 := 133) (v := 1) dX12_evenYear_132 rfl ab_k_iconst_1 ?_
          refine ab_icmp_ne (tgt := 183) (pc2 := 136) dX12_evenYear_133 (by decide) rfl hf (fun c52 hf => ?_) (fun c52 hf => ?_)
          · exact ab_weak (x_X12_evenYear_b183 ht0 ih hf) (ab_leS (ab_leS (ab_leN (ab_leN ab_le0))))
          · refine ab_aload_n (x := _) (pc2 := 137) dX12_evenYear_136 rfl rfl ?_
            refine ab_getI (pc2 := 140) rfl ht0 fa_X12_178 (by decide) dX12_evenYear_137 rfl ?_
            refine ab_aload_n (x := _) (pc2 := 141) dX12_evenYear_140 rfl rfl ?_
            refine ab_iload_n (pc2 := 142) dX12_evenYear_141 rfl rfl ?_
            obtain ⟨w53, ew53, hf⟩ := ab_bind hf
            refine ab_callV (pc2 := 145) (st := [_]) rfl ht0 (by decide) (m_X12_priceOf (d := (d + 2)) ht0 ew53) mf_X12_priceOf tw_210 tw_209 ts_X12_priceOf (Or.inl (by decide +kernel)) dX12_evenYear_142 rfl (by omega) (Nat.le_refl _) (Nat.le_refl _) rfl (Nat.le_of_ble_eq_true rfl) (ab_kPi ?_)
            refine ab_icmp_lt (tgt := 183) (pc2 := 148) dX12_evenYear_145 (by decide) rfl hf (fun c54 hf => ?_) (fun c54 hf => ?_)
            · exact ab_weak (x_X12_evenYear_b183 ht0 ih hf) (ab_leS (ab_leS (ab_leN (ab_leN ab_le0))))
            · refine ab_aload_n (x := _) (pc2 := 149) dX12_evenYear_148 rfl rfl ?_
              refine ab_dup (pc2 := 150) dX12_evenYear_149 rfl (ab_rf1 _) ?_
              refine ab_getI (pc2 := 153) rfl ht0 fa_X12_178 (by decide) dX12_evenYear_150 rfl ?_
              refine ab_aload_n (x := _) (pc2 := 154) dX12_evenYear_153 rfl rfl ?_
              refine ab_iload_n (pc2 := 155) dX12_evenYear_154 rfl rfl ?_
              obtain ⟨w55, ew55, hf⟩ := ab_bind hf
              refine ab_callV (pc2 := 158) (st := [_, _]) rfl ht0 (by decide) (m_X12_priceOf (d := (d + 2)) ht0 ew55) mf_X12_priceOf tw_210 tw_209 ts_X12_priceOf (Or.inl (by decide +kernel)) dX12_evenYear_155 rfl (by omega) (Nat.le_refl _) (Nat.le_refl _) rfl (Nat.le_of_ble_eq_true rfl) (ab_kPi ?_)
              refine ab_isub (pc2 := 159) dX12_evenYear_158 rfl ?_
              obtain ⟨h56, eh56, hf⟩ := ab_let_x hf
              refine ab_putI (pc2 := 162) rfl ht0 fa_X12_178 (Or.inl rfl) (fun z => by cases z) dX12_evenYear_159 rfl ?_
              refine ab_topH eh56 ?_
              refine ab_aload_n (x := _) (pc2 := 163) dX12_evenYear_162 rfl rfl ?_
              refine ab_dup (pc2 := 164) dX12_evenYear_163 rfl (ab_rf1 _) ?_
              refine ab_getI (pc2 := 167) rfl ht0 fa_X12_181 (by decide) dX12_evenYear_164 rfl ?_
              refine ab_aload_n (x := _) (pc2 := 168) dX12_evenYear_167 rfl rfl ?_
              refine ab_iload_n (pc2 := 169) dX12_evenYear_168 rfl rfl ?_
              obtain ⟨w57, ew57, hf⟩ := ab_bind hf
              refine ab_callV (pc2 := 172) (st := [_, _]) rfl ht0 (by decide) (m_X12_priceOf (d := (d + 2)) ht0 ew57) mf_X12_priceOf tw_210 tw_209 ts_X12_priceOf (Or.inl (by decide +kernel)) dX12_evenYear_169 rfl (by omega) (Nat.le_refl _) (Nat.le_refl _) rfl (Nat.le_of_ble_eq_true rfl) (ab_kPi ?_)
              refine ab_iadd (pc2 := 173) dX12_evenYear_172 rfl ?_
              obtain ⟨h58, eh58, hf⟩ := ab_let_x hf
              refine ab_putI (pc2 := 176) rfl ht0 fa_X12_181 (Or.inl rfl) (fun z => by cases z) dX12_evenYear_173 rfl ?_
              refine ab_topH eh58 ?_
              refine ab_aload_n (x := _) (pc2 := 177) dX12_evenYear_176 rfl rfl ?_
              refine ab_getR (pc2 := 180) rfl ht0 fa_X12_49 dX12_evenYear_177 rfl (fun T59 => ?_)
              refine ab_iload_n (pc2 := 181) dX12_evenYear_180 rfl rfl ?_
              refine ab_iconst (pc2 := 182) (v := 2) dX12_evenYear_181 rfl ab_k_iconst_2 ?_
              obtain ⟨q60, hq60, hf⟩ := ab_bind hf
              obtain ⟨b61, hf⟩ := ab_guard hf
              obtain ⟨h62, eh62, hf⟩ := ab_let_x hf
              refine ab_iast (pc2 := 183) hq60 (T59 q60 hq60) (ab_in_vp b61) dX12_evenYear_182 rfl ?_
              refine ab_topH eh62 ?_
              exact ab_weak (x_X12_evenYear_b183 ht0 ih hf) (ab_leS (ab_leS (ab_leN (ab_leN ab_le0))))
set_option maxHeartbeats 4000000 in
set_option maxRecDepth 100000 in
theorem x_X12_evenYear {d : Nat} {t0 : Nat} {h : ab_HP} {r : ab_HP} (ht0 : (ab_shp t0).1 = 5) (hf : f_X12_evenYear t0 h = some r) : ab_T mX12_evenYear (d + 3) 0 0 0 0 0 [some (va_rf (some t0)), none, none, none] [] h (ab_Pv r) := by
  unfold f_X12_evenYear at hf
  refine ab_iconst (pc2 := 1) (v := 0) dX12_evenYear_0 rfl ab_k_iconst_0 ?_
  refine ab_istore_n (pc2 := 2) (lo2 := [some (va_rf _), some (.int _), none, none]) dX12_evenYear_1 rfl (by decide) rfl ?_
  exact ab_weak (x_X12_evenYear_l2 ht0 _ _ _ hf) (ab_leS (ab_leS (ab_leN (ab_leN ab_le0))))
set_option maxHeartbeats 4000000 in
set_option maxRecDepth 100000 in
theorem m_X12_evenYear {d : Nat} {t0 : Nat} {h : ab_HP} {r : ab_HP} (ht0 : (ab_shp t0).1 = 5) (hf : f_X12_evenYear t0 h = some r) : ab_MET mX12_evenYear (d + 3) 0 0 [va_rf (some t0)] h (ab_Pv r) := ab_met (by decide +kernel) (by decide +kernel) (Nat.le_of_ble_eq_true rfl) rfl (x_X12_evenYear ht0 hf)
set_option maxHeartbeats 4000000 in
set_option maxRecDepth 100000 in
theorem x_X12_holds {d : Nat} {t0 : Nat} {i1 : Int32} {h : ab_HP} {r : Int32} (ht0 : (ab_shp t0).1 = 5) (hf : f_X12_holds t0 i1 h = some r) : ab_T mX12_holds (d + 0) 0 0 0 0 0 [some (va_rf (some t0)), some (.int i1)] [] h (ab_Pb r h) := by
  unfold f_X12_holds at hf
  refine ab_aload_n (x := _) (pc2 := 1) dX12_holds_0 rfl rfl ?_
  refine ab_getR (pc2 := 4) rfl ht0 fa_X12_49 dX12_holds_1 rfl (fun T1 => ?_)
  refine ab_iload_n (pc2 := 5) dX12_holds_4 rfl rfl ?_
  obtain ⟨q2, hq2, hf⟩ := ab_bind hf
  obtain ⟨b3, hf⟩ := ab_guard hf
  refine ab_iald (pc2 := 6) hq2 (T1 q2 hq2) (ab_in_vp b3) dX12_holds_5 rfl ?_
  refine ab_iconst (pc2 := 7) (v := 2) dX12_holds_6 rfl ab_k_iconst_2 ?_
  refine ab_icmp_eq (tgt := 20) (pc2 := 10) dX12_holds_7 (by decide) rfl hf (fun c4 hf => ?_) (fun c4 hf => ?_)
  · refine ab_iconst (pc2 := 21) (v := 1) dX12_holds_20 rfl ab_k_iconst_1 ?_
    refine ab_goto (tgt := 25) dX12_holds_21 (by decide) ?_
    cases Option.some.inj hf
    exact ab_retI dX12_holds_25 (Or.inr ⟨rfl, (Or.inr rfl)⟩) (Nat.le_refl _) (Nat.le_refl _) ⟨rfl, rfl, (Or.inr rfl)⟩
  · refine ab_aload_n (x := _) (pc2 := 11) dX12_holds_10 rfl rfl ?_
    refine ab_getR (pc2 := 14) rfl ht0 fa_X12_49 dX12_holds_11 rfl (fun T5 => ?_)
    refine ab_iload_n (pc2 := 15) dX12_holds_14 rfl rfl ?_
    obtain ⟨q6, hq6, hf⟩ := ab_bind hf
    obtain ⟨b7, hf⟩ := ab_guard hf
    refine ab_iald (pc2 := 16) hq6 (T5 q6 hq6) (ab_in_vp b7) dX12_holds_15 rfl ?_
    refine ab_iconst (pc2 := 17) (v := 3) dX12_holds_16 rfl ab_k_iconst_3 ?_
    refine ab_icmp_ne (tgt := 24) (pc2 := 20) dX12_holds_17 (by decide) rfl hf (fun c8 hf => ?_) (fun c8 hf => ?_)
    · refine ab_iconst (pc2 := 25) (v := 0) dX12_holds_24 rfl ab_k_iconst_0 ?_
      cases Option.some.inj hf
      exact ab_retI dX12_holds_25 (Or.inr ⟨rfl, (Or.inl rfl)⟩) (Nat.le_refl _) (Nat.le_refl _) ⟨rfl, rfl, (Or.inl rfl)⟩
    · refine ab_iconst (pc2 := 21) (v := 1) dX12_holds_20 rfl ab_k_iconst_1 ?_
      refine ab_goto (tgt := 25) dX12_holds_21 (by decide) ?_
      cases Option.some.inj hf
      exact ab_retI dX12_holds_25 (Or.inr ⟨rfl, (Or.inr rfl)⟩) (Nat.le_refl _) (Nat.le_refl _) ⟨rfl, rfl, (Or.inr rfl)⟩
set_option maxHeartbeats 4000000 in
set_option maxRecDepth 100000 in
theorem m_X12_holds {d : Nat} {t0 : Nat} {i1 : Int32} {h : ab_HP} {r : Int32} (ht0 : (ab_shp t0).1 = 5) (hf : f_X12_holds t0 i1 h = some r) : ab_MET mX12_holds (d + 0) 0 0 [va_rf (some t0), .int i1] h (ab_Pb r h) := ab_met (by decide +kernel) (by decide +kernel) (Nat.le_of_ble_eq_true rfl) rfl (x_X12_holds ht0 hf)
set_option maxHeartbeats 4000000 in
set_option maxRecDepth 100000 in
theorem x_X12_isHeld_l4 {d : Nat} {t0 : Nat} {r : Int32} (ht0 : (ab_shp t0).1 = 5) : ∀ (n : Nat) (i1 : Int32) (i2 : Int32) (h : ab_HP), f_X12_isHeld_l4 t0 n i1 i2 h = some r → ab_T mX12_isHeld (d + 1) 0 0 0 0 4 [some (va_rf (some t0)), some (.int i1), some (.int i2)] [] h (ab_Pb r h) := by
  intro n
  induction n with
  | zero =>
    intro i1 i2 h hf
    rw [f_X12_isHeld_l4] at hf
    cases hf
  | succ n ih =>
    intro i1 i2 h hf
    rw [f_X12_isHeld_l4] at hf
    refine ab_iload_n (pc2 := 5) dX12_isHeld_4 rfl rfl ?_
    refine ab_aload_n (x := _) (pc2 := 6) dX12_isHeld_5 rfl rfl ?_
    refine ab_getI (pc2 := 9) rfl ht0 fa_X12_166 (by decide) dX12_isHeld_6 rfl ?_
    refine ab_icmp_ge (tgt := 49) (pc2 := 12) dX12_isHeld_9 (by decide) rfl hf (fun c1 hf => ?_) (fun c1 hf => ?_)
    · refine ab_iconst (pc2 := 50) (v := 0) dX12_isHeld_49 rfl ab_k_iconst_0 ?_
      cases Option.some.inj hf
      exact ab_retI dX12_isHeld_50 (Or.inr ⟨rfl, (Or.inl rfl)⟩) (Nat.le_refl _) (Nat.le_refl _) ⟨rfl, rfl, (Or.inl rfl)⟩
    · refine ab_aload_n (x := _) (pc2 := 13) dX12_isHeld_12 rfl rfl ?_
      refine ab_iload_n (pc2 := 14) dX12_isHeld_13 rfl rfl ?_
      obtain ⟨w2, ew2, hf⟩ := ab_bind hf
      refine ab_callV (pc2 := 17) (st := []) rfl ht0 (by decide) (m_X12_holds (d := (d + 0)) ht0 ew2) mf_X12_holds tw_212 tw_211 ts_X12_holds (Or.inl (by decide +kernel)) dX12_isHeld_14 rfl (by omega) (Nat.le_refl _) (Nat.le_refl _) rfl (Nat.le_of_ble_eq_true rfl) (ab_kPb fun z3 => ?_)
      refine ab_if_eq (tgt := 43) (pc2 := 20) dX12_isHeld_17 (by decide) rfl hf (fun c4 hf => ?_) (fun c4 hf => ?_)
      · refine ab_iinc (pc2 := 46) (v := _ + 1) (lo2 := [some (va_rf _), some (.int _), some (.int _)]) dX12_isHeld_43 rfl rfl rfl (by decide) rfl ?_
        refine ab_goto (tgt := 4) dX12_isHeld_46 (by decide) ?_
        exact ab_weak (ih _ _ _ hf) (ab_leS (ab_leS (ab_leS ab_le0)))
      · refine ab_aload_n (x := _) (pc2 := 21) dX12_isHeld_20 rfl rfl ?_
        refine ab_aload_n (x := _) (pc2 := 22) dX12_isHeld_21 rfl rfl ?_
        refine ab_getR (pc2 := 25) rfl ht0 fa_X12_40 dX12_isHeld_22 rfl (fun T5 => ?_)
        refine ab_iload_n (pc2 := 26) dX12_isHeld_25 rfl rfl ?_
        obtain ⟨q6, hq6, hf⟩ := ab_bind hf
        obtain ⟨b7, hf⟩ := ab_guard hf
        refine ab_iald (pc2 := 27) hq6 (T5 q6 hq6) (ab_in_vp b7) dX12_isHeld_26 rfl ?_
        refine ab_iconst (pc2 := 28) (v := 1) dX12_isHeld_27 rfl ab_k_iconst_1 ?_
        obtain ⟨w8, ew8, hf⟩ := ab_bind hf
        refine ab_callV (pc2 := 31) (st := []) rfl ht0 (by decide) (m_X12_get (d := (d + 0)) ht0 ew8) mf_X12_get tw_129 tw_128 ts_X12_get (Or.inl (by decide +kernel)) dX12_isHeld_28 rfl (by omega) (Nat.le_refl _) (Nat.le_refl _) rfl (Nat.le_of_ble_eq_true rfl) (ab_kPi ?_)
        refine ab_aload_n (x := _) (pc2 := 32) dX12_isHeld_31 rfl rfl ?_
        refine ab_getR (pc2 := 35) rfl ht0 fa_X12_43 dX12_isHeld_32 rfl (fun T9 => ?_)
        refine ab_iload_n (pc2 := 36) dX12_isHeld_35 rfl rfl ?_
        obtain ⟨q10, hq10, hf⟩ := ab_bind hf
        obtain ⟨b11, hf⟩ := ab_guard hf
        refine ab_iald (pc2 := 37) hq10 (T9 q10 hq10) (ab_in_vp b11) dX12_isHeld_36 rfl ?_
        refine ab_iand (pc2 := 38) dX12_isHeld_37 rfl ?_
        refine ab_if_eq (tgt := 43) (pc2 := 41) dX12_isHeld_38 (by decide) rfl hf (fun c12 hf => ?_) (fun c12 hf => ?_)
        · refine ab_iinc (pc2 := 46) (v := _ + 1) (lo2 := [some (va_rf _), some (.int _), some (.int _)]) dX12_isHeld_43 rfl rfl rfl (by decide) rfl ?_
          refine ab_goto (tgt := 4) dX12_isHeld_46 (by decide) ?_
          exact ab_weak (ih _ _ _ hf) (ab_leS (ab_leS (ab_leS ab_le0)))
        · refine ab_iconst (pc2 := 42) (v := 1) dX12_isHeld_41 rfl ab_k_iconst_1 ?_
          cases Option.some.inj hf
          exact ab_retI dX12_isHeld_42 (Or.inr ⟨rfl, (Or.inr rfl)⟩) (Nat.le_refl _) (Nat.le_refl _) ⟨rfl, rfl, (Or.inr rfl)⟩
set_option maxHeartbeats 4000000 in
set_option maxRecDepth 100000 in
theorem x_X12_isHeld {d : Nat} {t0 : Nat} {i1 : Int32} {h : ab_HP} {r : Int32} (ht0 : (ab_shp t0).1 = 5) (hf : f_X12_isHeld t0 i1 h = some r) : ab_T mX12_isHeld (d + 1) 0 0 0 0 0 [some (va_rf (some t0)), some (.int i1), none] [] h (ab_Pb r h) := by
  unfold f_X12_isHeld at hf
  refine ab_iload_n (pc2 := 1) dX12_isHeld_0 rfl rfl ?_
  refine ab_iconst (pc2 := 2) (v := 1) dX12_isHeld_1 rfl ab_k_iconst_1 ?_
  refine ab_iadd (pc2 := 3) dX12_isHeld_2 rfl ?_
  refine ab_istore_n (pc2 := 4) (lo2 := [some (va_rf _), some (.int _), some (.int _)]) dX12_isHeld_3 rfl (by decide) rfl ?_
  exact ab_weak (x_X12_isHeld_l4 ht0 _ _ _ _ hf) (ab_leS (ab_leS (ab_leS ab_le0)))
set_option maxHeartbeats 4000000 in
set_option maxRecDepth 100000 in
theorem m_X12_isHeld {d : Nat} {t0 : Nat} {i1 : Int32} {h : ab_HP} {r : Int32} (ht0 : (ab_shp t0).1 = 5) (hf : f_X12_isHeld t0 i1 h = some r) : ab_MET mX12_isHeld (d + 1) 0 0 [va_rf (some t0), .int i1] h (ab_Pb r h) := ab_met (by decide +kernel) (by decide +kernel) (Nat.le_of_ble_eq_true rfl) rfl (x_X12_isHeld ht0 hf)
set_option maxHeartbeats 4000000 in
set_option maxRecDepth 100000 in
theorem x_X12_undoes {d : Nat} {t0 : Nat} {i1 : Int32} {i2 : Int32} {h : ab_HP} {r : ab_HP} (ht0 : (ab_shp t0).1 = 5) (hf : f_X12_undoes t0 i1 i2 h = some r) : ab_T mX12_undoes (d + 3) 0 0 0 0 0 [some (va_rf (some t0)), some (.int i1), some (.int i2)] [] h (ab_Pv r) := by
  unfold f_X12_undoes at hf
  refine ab_aload_n (x := _) (pc2 := 1) dX12_undoes_0 rfl rfl ?_
  refine ab_aload_n (x := _) (pc2 := 2) dX12_undoes_1 rfl rfl ?_
  refine ab_getI (pc2 := 5) rfl ht0 fa_X12_175 (by decide) dX12_undoes_2 rfl ?_
  refine ab_aload_n (x := _) (pc2 := 6) dX12_undoes_5 rfl rfl ?_
  refine ab_getR (pc2 := 9) rfl ht0 fa_X12_43 dX12_undoes_6 rfl (fun T1 => ?_)
  refine ab_iload_n (pc2 := 10) dX12_undoes_9 rfl rfl ?_
  obtain ⟨q2, hq2, hf⟩ := ab_bind hf
  obtain ⟨b3, hf⟩ := ab_guard hf
  refine ab_iald (pc2 := 11) hq2 (T1 q2 hq2) (ab_in_vp b3) dX12_undoes_10 rfl ?_
  refine ab_iconst (pc2 := 12) (v := (-1)) dX12_undoes_11 rfl ab_k_iconst_m1 ?_
  refine ab_ixor (pc2 := 13) dX12_undoes_12 rfl ?_
  refine ab_iand (pc2 := 14) dX12_undoes_13 rfl ?_
  refine ab_aload_n (x := _) (pc2 := 15) dX12_undoes_14 rfl rfl ?_
  refine ab_getR (pc2 := 18) rfl ht0 fa_X12_46 dX12_undoes_15 rfl (fun T4 => ?_)
  refine ab_iload_n (pc2 := 19) dX12_undoes_18 rfl rfl ?_
  obtain ⟨q5, hq5, hf⟩ := ab_bind hf
  obtain ⟨b6, hf⟩ := ab_guard hf
  refine ab_iald (pc2 := 20) hq5 (T4 q5 hq5) (ab_in_vp b6) dX12_undoes_19 rfl ?_
  refine ab_ior (pc2 := 21) dX12_undoes_20 rfl ?_
  obtain ⟨h7, eh7, hf⟩ := ab_let_x hf
  refine ab_putI (pc2 := 24) rfl ht0 fa_X12_175 (Or.inl rfl) (fun z => by cases z) dX12_undoes_21 rfl ?_
  refine ab_topH eh7 ?_
  refine ab_aload_n (x := _) (pc2 := 25) dX12_undoes_24 rfl rfl ?_
  refine ab_dup (pc2 := 26) dX12_undoes_25 rfl (ab_rf1 _) ?_
  refine ab_getI (pc2 := 29) rfl ht0 fa_X12_178 (by decide) dX12_undoes_26 rfl ?_
  refine ab_aload_n (x := _) (pc2 := 30) dX12_undoes_29 rfl rfl ?_
  refine ab_aload_n (x := _) (pc2 := 31) dX12_undoes_30 rfl rfl ?_
  refine ab_getR (pc2 := 34) rfl ht0 fa_X12_40 dX12_undoes_31 rfl (fun T8 => ?_)
  refine ab_iload_n (pc2 := 35) dX12_undoes_34 rfl rfl ?_
  obtain ⟨q9, hq9, hf⟩ := ab_bind hf
  obtain ⟨b10, hf⟩ := ab_guard hf
  refine ab_iald (pc2 := 36) hq9 (T8 q9 hq9) (ab_in_vp b10) dX12_undoes_35 rfl ?_
  obtain ⟨w11, ew11, hf⟩ := ab_bind hf
  refine ab_callV (pc2 := 39) (st := [_, _]) rfl ht0 (by decide) (m_X12_backOf (d := (d + 0)) ht0 ew11) mf_X12_backOf tw_138 tw_137 ts_X12_backOf (Or.inl (by decide +kernel)) dX12_undoes_36 rfl (by omega) (Nat.le_refl _) (Nat.le_refl _) rfl (Nat.le_of_ble_eq_true rfl) (ab_kPi ?_)
  refine ab_iadd (pc2 := 40) dX12_undoes_39 rfl ?_
  obtain ⟨h12, eh12, hf⟩ := ab_let_x hf
  refine ab_putI (pc2 := 43) rfl ht0 fa_X12_178 (Or.inl rfl) (fun z => by cases z) dX12_undoes_40 rfl ?_
  refine ab_topH eh12 ?_
  refine ab_aload_n (x := _) (pc2 := 44) dX12_undoes_43 rfl rfl ?_
  refine ab_aload_n (x := _) (pc2 := 45) dX12_undoes_44 rfl rfl ?_
  refine ab_getI (pc2 := 48) rfl ht0 fa_X12_178 (by decide) dX12_undoes_45 rfl ?_
  refine ab_sipush (pc2 := 51) (v := 9999) dX12_undoes_48 rfl ab_k_sipush_9999 ?_
  refine ab_icmp_le (tgt := 60) (pc2 := 54) dX12_undoes_51 (by decide) rfl hf (fun c13 hf => ?_) (fun c13 hf => ?_)
  · refine ab_aload_n (x := _) (pc2 := 61) dX12_undoes_60 rfl rfl ?_
    refine ab_getI (pc2 := 64) rfl ht0 fa_X12_178 (by decide) dX12_undoes_61 rfl ?_
    obtain ⟨h14, eh14, hf⟩ := ab_let_x hf
    refine ab_putI (pc2 := 67) rfl ht0 fa_X12_178 (Or.inl rfl) (fun z => by cases z) dX12_undoes_64 rfl ?_
    refine ab_topH eh14 ?_
    refine ab_aload_n (x := _) (pc2 := 68) dX12_undoes_67 rfl rfl ?_
    refine ab_getR (pc2 := 71) rfl ht0 fa_X12_49 dX12_undoes_68 rfl (fun T15 => ?_)
    refine ab_iload_n (pc2 := 72) dX12_undoes_71 rfl rfl ?_
    refine ab_iload_n (pc2 := 73) dX12_undoes_72 rfl rfl ?_
    obtain ⟨q16, hq16, hf⟩ := ab_bind hf
    obtain ⟨b17, hf⟩ := ab_guard hf
    obtain ⟨h18, eh18, hf⟩ := ab_let_x hf
    refine ab_iast (pc2 := 74) hq16 (T15 q16 hq16) (ab_in_vp b17) dX12_undoes_73 rfl ?_
    refine ab_topH eh18 ?_
    refine ab_aload_n (x := _) (pc2 := 75) dX12_undoes_74 rfl rfl ?_
    refine ab_dup (pc2 := 76) dX12_undoes_75 rfl (ab_rf1 _) ?_
    refine ab_getI (pc2 := 79) rfl ht0 fa_X12_184 (by decide) dX12_undoes_76 rfl ?_
    refine ab_iconst (pc2 := 80) (v := 1) dX12_undoes_79 rfl ab_k_iconst_1 ?_
    refine ab_iadd (pc2 := 81) dX12_undoes_80 rfl ?_
    obtain ⟨h19, eh19, hf⟩ := ab_let_x hf
    refine ab_putI (pc2 := 84) rfl ht0 fa_X12_184 (Or.inl rfl) (fun z => by cases z) dX12_undoes_81 rfl ?_
    refine ab_topH eh19 ?_
    cases Option.some.inj hf
    exact ab_retV dX12_undoes_84 rfl (Nat.le_refl _) (Nat.le_refl _) ⟨rfl, rfl⟩
  · refine ab_sipush (pc2 := 57) (v := 9999) dX12_undoes_54 rfl ab_k_sipush_9999 ?_
    refine ab_goto (tgt := 64) dX12_undoes_57 (by decide) ?_
    obtain ⟨h20, eh20, hf⟩ := ab_let_x hf
    refine ab_putI (pc2 := 67) rfl ht0 fa_X12_178 (Or.inl rfl) (fun z => by cases z) dX12_undoes_64 rfl ?_
    refine ab_topH eh20 ?_
    refine ab_aload_n (x := _) (pc2 := 68) dX12_undoes_67 rfl rfl ?_
    refine ab_getR (pc2 := 71) rfl ht0 fa_X12_49 dX12_undoes_68 rfl (fun T21 => ?_)
    refine ab_iload_n (pc2 := 72) dX12_undoes_71 rfl rfl ?_
    refine ab_iload_n (pc2 := 73) dX12_undoes_72 rfl rfl ?_
    obtain ⟨q22, hq22, hf⟩ := ab_bind hf
    obtain ⟨b23, hf⟩ := ab_guard hf
    obtain ⟨h24, eh24, hf⟩ := ab_let_x hf
    refine ab_iast (pc2 := 74) hq22 (T21 q22 hq22) (ab_in_vp b23) dX12_undoes_73 rfl ?_
    refine ab_topH eh24 ?_
    refine ab_aload_n (x := _) (pc2 := 75) dX12_undoes_74 rfl rfl ?_
    refine ab_dup (pc2 := 76) dX12_undoes_75 rfl (ab_rf1 _) ?_
    refine ab_getI (pc2 := 79) rfl ht0 fa_X12_184 (by decide) dX12_undoes_76 rfl ?_
    refine ab_iconst (pc2 := 80) (v := 1) dX12_undoes_79 rfl ab_k_iconst_1 ?_
    refine ab_iadd (pc2 := 81) dX12_undoes_80 rfl ?_
    obtain ⟨h25, eh25, hf⟩ := ab_let_x hf
    refine ab_putI (pc2 := 84) rfl ht0 fa_X12_184 (Or.inl rfl) (fun z => by cases z) dX12_undoes_81 rfl ?_
    refine ab_topH eh25 ?_
    cases Option.some.inj hf
    exact ab_retV dX12_undoes_84 rfl (Nat.le_refl _) (Nat.le_refl _) ⟨rfl, rfl⟩
set_option maxHeartbeats 4000000 in
set_option maxRecDepth 100000 in
theorem m_X12_undoes {d : Nat} {t0 : Nat} {i1 : Int32} {i2 : Int32} {h : ab_HP} {r : ab_HP} (ht0 : (ab_shp t0).1 = 5) (hf : f_X12_undoes t0 i1 i2 h = some r) : ab_MET mX12_undoes (d + 3) 0 0 [va_rf (some t0), .int i1, .int i2] h (ab_Pv r) := ab_met (by decide +kernel) (by decide +kernel) (Nat.le_of_ble_eq_true rfl) rfl (x_X12_undoes ht0 hf)
set_option maxHeartbeats 4000000 in
set_option maxRecDepth 100000 in
theorem x_X12_falls_l15 {d : Nat} {k2 : Int32 → ab_HP → Option ab_HP} {t0 : Nat} {r : ab_HP} (ht0 : (ab_shp t0).1 = 5) (hk2 : ∀ (i1 : Int32) (h : ab_HP), k2 i1 h = some r → ab_T mX12_falls (d + 4) 0 0 0 0 2 [some (va_rf (some t0)), some (.int i1), none] [] h (ab_Pv r)) : ∀ (n : Nat) (i1 : Int32) (i2 : Int32) (h : ab_HP), f_X12_falls_l15 k2 t0 n i1 i2 h = some r → ab_T mX12_falls (d + 4) 0 0 0 0 15 [some (va_rf (some t0)), some (.int i1), some (.int i2)] [] h (ab_Pv r) := by
  intro n
  induction n with
  | zero =>
    intro i1 i2 h hf
    rw [f_X12_falls_l15] at hf
    cases hf
  | succ n ih =>
    intro i1 i2 h hf
    rw [f_X12_falls_l15] at hf
    refine ab_iload_n (pc2 := 16) dX12_falls_15 rfl rfl ?_
    refine ab_if_lt (tgt := 65) (pc2 := 19) dX12_falls_16 (by decide) rfl hf (fun c2 hf => ?_) (fun c2 hf => ?_)
    · refine ab_goto (tgt := 2) dX12_falls_65 (by decide) ?_
      exact ab_weak (hk2 _ _ hf) (ab_leS (ab_leS (ab_leN ab_le0)))
    · refine ab_aload_n (x := _) (pc2 := 20) dX12_falls_19 rfl rfl ?_
      refine ab_iload_n (pc2 := 21) dX12_falls_20 rfl rfl ?_
      obtain ⟨w3, ew3, hf⟩ := ab_bind hf
      refine ab_callV (pc2 := 24) (st := []) rfl ht0 (by decide) (m_X12_holds (d := (d + 3)) ht0 ew3) mf_X12_holds tw_212 tw_211 ts_X12_holds (Or.inl (by decide +kernel)) dX12_falls_21 rfl (by omega) (Nat.le_refl _) (Nat.le_refl _) rfl (Nat.le_of_ble_eq_true rfl) (ab_kPb fun z4 => ?_)
      refine ab_if_eq (tgt := 59) (pc2 := 27) dX12_falls_24 (by decide) rfl hf (fun c5 hf => ?_) (fun c5 hf => ?_)
      · refine ab_iinc (pc2 := 62) (v := _ + (-1)) (lo2 := [some (va_rf _), some (.int _), some (.int _)]) dX12_falls_59 rfl rfl rfl (by decide) rfl ?_
        refine ab_goto (tgt := 15) dX12_falls_62 (by decide) ?_
        exact ab_weak (ih _ _ _ hf) (ab_leS (ab_leS (ab_leS ab_le0)))
      · refine ab_aload_n (x := _) (pc2 := 28) dX12_falls_27 rfl rfl ?_
        refine ab_aload_n (x := _) (pc2 := 29) dX12_falls_28 rfl rfl ?_
        refine ab_getR (pc2 := 32) rfl ht0 fa_X12_40 dX12_falls_29 rfl (fun T6 => ?_)
        refine ab_iload_n (pc2 := 33) dX12_falls_32 rfl rfl ?_
        obtain ⟨q7, hq7, hf⟩ := ab_bind hf
        obtain ⟨b8, hf⟩ := ab_guard hf
        refine ab_iald (pc2 := 34) hq7 (T6 q7 hq7) (ab_in_vp b8) dX12_falls_33 rfl ?_
        refine ab_iconst (pc2 := 35) (v := 1) dX12_falls_34 rfl ab_k_iconst_1 ?_
        obtain ⟨w9, ew9, hf⟩ := ab_bind hf
        refine ab_callV (pc2 := 38) (st := []) rfl ht0 (by decide) (m_X12_get (d := (d + 3)) ht0 ew9) mf_X12_get tw_129 tw_128 ts_X12_get (Or.inl (by decide +kernel)) dX12_falls_35 rfl (by omega) (Nat.le_refl _) (Nat.le_refl _) rfl (Nat.le_of_ble_eq_true rfl) (ab_kPi ?_)
        refine ab_aload_n (x := _) (pc2 := 39) dX12_falls_38 rfl rfl ?_
        refine ab_getI (pc2 := 42) rfl ht0 fa_X12_175 (by decide) dX12_falls_39 rfl ?_
        refine ab_iconst (pc2 := 43) (v := (-1)) dX12_falls_42 rfl ab_k_iconst_m1 ?_
        refine ab_ixor (pc2 := 44) dX12_falls_43 rfl ?_
        refine ab_iand (pc2 := 45) dX12_falls_44 rfl ?_
        refine ab_if_ne (tgt := 51) (pc2 := 48) dX12_falls_45 (by decide) rfl hf (fun c10 hf => ?_) (fun c10 hf => ?_)
        · refine ab_aload_n (x := _) (pc2 := 52) dX12_falls_51 rfl rfl ?_
          refine ab_iload_n (pc2 := 53) dX12_falls_52 rfl rfl ?_
          refine ab_iconst (pc2 := 54) (v := 5) dX12_falls_53 rfl ab_k_iconst_5 ?_
          obtain ⟨w11, ew11, hf⟩ := ab_bind hf
          refine ab_callV (pc2 := 57) (st := []) rfl ht0 (by decide) (m_X12_undoes (d := (d + 0)) ht0 ew11) mf_X12_undoes tw_214 tw_213 ts_X12_undoes (Or.inl (by decide +kernel)) dX12_falls_54 rfl (by omega) (Nat.le_refl _) (Nat.le_refl _) rfl (Nat.le_of_ble_eq_true rfl) (ab_kPv ?_)
          refine ab_iconst (pc2 := 58) (v := 1) dX12_falls_57 rfl ab_k_iconst_1 ?_
          refine ab_istore_n (pc2 := 59) (lo2 := [some (va_rf _), some (.int _), some (.int _)]) dX12_falls_58 rfl (by decide) rfl ?_
          refine ab_iinc (pc2 := 62) (v := _ + (-1)) (lo2 := [some (va_rf _), some (.int _), some (.int _)]) dX12_falls_59 rfl rfl rfl (by decide) rfl ?_
          refine ab_goto (tgt := 15) dX12_falls_62 (by decide) ?_
          exact ab_weak (ih _ _ _ hf) (ab_leS (ab_leS (ab_leS ab_le0)))
        · refine ab_goto (tgt := 59) dX12_falls_48 (by decide) ?_
          refine ab_iinc (pc2 := 62) (v := _ + (-1)) (lo2 := [some (va_rf _), some (.int _), some (.int _)]) dX12_falls_59 rfl rfl rfl (by decide) rfl ?_
          refine ab_goto (tgt := 15) dX12_falls_62 (by decide) ?_
          exact ab_weak (ih _ _ _ hf) (ab_leS (ab_leS (ab_leS ab_le0)))
set_option maxHeartbeats 4000000 in
set_option maxRecDepth 100000 in
theorem x_X12_falls_l2 {d : Nat} {t0 : Nat} {r : ab_HP} (ht0 : (ab_shp t0).1 = 5) : ∀ (n : Nat) (i1 : Int32) (h : ab_HP), f_X12_falls_l2 t0 n i1 h = some r → ab_T mX12_falls (d + 4) 0 0 0 0 2 [some (va_rf (some t0)), some (.int i1), none] [] h (ab_Pv r) := by
  intro n
  induction n with
  | zero =>
    intro i1 h hf
    rw [f_X12_falls_l2] at hf
    cases hf
  | succ n ih =>
    intro i1 h hf
    rw [f_X12_falls_l2] at hf
    refine ab_iload_n (pc2 := 3) dX12_falls_2 rfl rfl ?_
    refine ab_if_eq (tgt := 68) (pc2 := 6) dX12_falls_3 (by decide) rfl hf (fun c1 hf => ?_) (fun c1 hf => ?_)
    · cases Option.some.inj hf
      exact ab_retV dX12_falls_68 rfl (Nat.le_refl _) (Nat.le_refl _) ⟨rfl, rfl⟩
    · refine ab_iconst (pc2 := 7) (v := 0) dX12_falls_6 rfl ab_k_iconst_0 ?_
      refine ab_istore_n (pc2 := 8) (lo2 := [some (va_rf _), some (.int _), none]) dX12_falls_7 rfl (by decide) rfl ?_
      refine ab_aload_n (x := _) (pc2 := 9) dX12_falls_8 rfl rfl ?_
      refine ab_getI (pc2 := 12) rfl ht0 fa_X12_166 (by decide) dX12_falls_9 rfl ?_
      refine ab_iconst (pc2 := 13) (v := 1) dX12_falls_12 rfl ab_k_iconst_1 ?_
      refine ab_isub (pc2 := 14) dX12_falls_13 rfl ?_
      refine ab_istore_n (pc2 := 15) (lo2 := [some (va_rf _), some (.int _), some (.int _)]) dX12_falls_14 rfl (by decide) rfl ?_
      exact ab_weak (x_X12_falls_l15 ht0 ih _ _ _ _ hf) (ab_leS (ab_leS (ab_leS ab_le0)))
set_option maxHeartbeats 4000000 in
set_option maxRecDepth 100000 in
theorem x_X12_falls {d : Nat} {t0 : Nat} {h : ab_HP} {r : ab_HP} (ht0 : (ab_shp t0).1 = 5) (hf : f_X12_falls t0 h = some r) : ab_T mX12_falls (d + 4) 0 0 0 0 0 [some (va_rf (some t0)), none, none] [] h (ab_Pv r) := by
  unfold f_X12_falls at hf
  refine ab_iconst (pc2 := 1) (v := 1) dX12_falls_0 rfl ab_k_iconst_1 ?_
  refine ab_istore_n (pc2 := 2) (lo2 := [some (va_rf _), some (.int _), none]) dX12_falls_1 rfl (by decide) rfl ?_
  exact ab_weak (x_X12_falls_l2 ht0 _ _ _ hf) (ab_leS (ab_leS (ab_leN ab_le0)))
set_option maxHeartbeats 4000000 in
set_option maxRecDepth 100000 in
theorem m_X12_falls {d : Nat} {t0 : Nat} {h : ab_HP} {r : ab_HP} (ht0 : (ab_shp t0).1 = 5) (hf : f_X12_falls t0 h = some r) : ab_MET mX12_falls (d + 4) 0 0 [va_rf (some t0)] h (ab_Pv r) := ab_met (by decide +kernel) (by decide +kernel) (Nat.le_of_ble_eq_true rfl) rfl (x_X12_falls ht0 hf)
set_option maxHeartbeats 4000000 in
set_option maxRecDepth 100000 in
theorem x_X12_oddYear_b52 {d : Nat} {k7 : Int32 → ab_HP → Option ab_HP} {t0 : Nat} {i1 : Int32} {h : ab_HP} {r : ab_HP} (ht0 : (ab_shp t0).1 = 5) (hk7 : ∀ (i1 : Int32) (h : ab_HP), k7 i1 h = some r → ab_T mX12_oddYear (d + 5) 0 0 0 0 7 [some (va_rf (some t0)), some (.int i1)] [] h (ab_Pv r)) (hf : f_X12_oddYear_b52 k7 t0 i1 h = some r) : ab_T mX12_oddYear (d + 5) 0 0 0 0 52 [some (va_rf (some t0)), some (.int i1)] [] h (ab_Pv r) := by
  unfold f_X12_oddYear_b52 at hf
  refine ab_aload_n (x := _) (pc2 := 53) dX12_oddYear_52 rfl rfl ?_
  refine ab_iload_n (pc2 := 54) dX12_oddYear_53 rfl rfl ?_
  refine ab_iconst (pc2 := 55) (v := 1) dX12_oddYear_54 rfl ab_k_iconst_1 ?_
  obtain ⟨w17, ew17, hf⟩ := ab_bind hf
  refine ab_callV (pc2 := 58) (st := []) rfl ht0 (by decide) (m_X12_undoes (d := (d + 1)) ht0 ew17) mf_X12_undoes tw_214 tw_213 ts_X12_undoes (Or.inl (by decide +kernel)) dX12_oddYear_55 rfl (by omega) (Nat.le_refl _) (Nat.le_refl _) rfl (Nat.le_of_ble_eq_true rfl) (ab_kPv ?_)
  refine ab_aload_n (x := _) (pc2 := 59) dX12_oddYear_58 rfl rfl ?_
  refine ab_getR (pc2 := 62) rfl ht0 fa_X12_9 dX12_oddYear_59 rfl (fun T18 => ?_)
  refine ab_iconst (pc2 := 63) (v := 3) dX12_oddYear_62 rfl ab_k_iconst_3 ?_
  obtain ⟨q19, hq19, hf⟩ := ab_bind hf
  obtain ⟨b20, hf⟩ := ab_guard hf
  refine ab_iald (pc2 := 64) hq19 (T18 q19 hq19) (ab_in_vp b20) dX12_oddYear_63 rfl ?_
  refine ab_if_ne (tgt := 71) (pc2 := 67) dX12_oddYear_64 (by decide) rfl hf (fun c21 hf => ?_) (fun c21 hf => ?_)
  · refine ab_iinc (pc2 := 74) (v := _ + (-1)) (lo2 := [some (va_rf _), some (.int _)]) dX12_oddYear_71 rfl rfl rfl (by decide) rfl ?_
    refine ab_goto (tgt := 7) dX12_oddYear_74 (by decide) ?_
    exact ab_weak (hk7 _ _ hf) (ab_leS (ab_leS ab_le0))
  · refine ab_aload_n (x := _) (pc2 := 68) dX12_oddYear_67 rfl rfl ?_
    obtain ⟨w22, ew22, hf⟩ := ab_bind hf
    refine ab_callV (pc2 := 71) (st := []) rfl ht0 (by decide) (m_X12_falls (d := (d + 0)) ht0 ew22) mf_X12_falls tw_218 tw_217 ts_X12_falls (Or.inl (by decide +kernel)) dX12_oddYear_68 rfl (by omega) (Nat.le_refl _) (Nat.le_refl _) rfl (Nat.le_of_ble_eq_true rfl) (ab_kPv ?_)
    refine ab_iinc (pc2 := 74) (v := _ + (-1)) (lo2 := [some (va_rf _), some (.int _)]) dX12_oddYear_71 rfl rfl rfl (by decide) rfl ?_
    refine ab_goto (tgt := 7) dX12_oddYear_74 (by decide) ?_
    exact ab_weak (hk7 _ _ hf) (ab_leS (ab_leS ab_le0))
set_option maxHeartbeats 4000000 in
set_option maxRecDepth 100000 in
theorem x_X12_oddYear_l7 {d : Nat} {t0 : Nat} {r : ab_HP} (ht0 : (ab_shp t0).1 = 5) : ∀ (n : Nat) (i1 : Int32) (h : ab_HP), f_X12_oddYear_l7 t0 n i1 h = some r → ab_T mX12_oddYear (d + 5) 0 0 0 0 7 [some (va_rf (some t0)), some (.int i1)] [] h (ab_Pv r) := by
  intro n
  induction n with
  | zero =>
    intro i1 h hf
    rw [f_X12_oddYear_l7] at hf
    cases hf
  | succ n ih =>
    intro i1 h hf
    rw [f_X12_oddYear_l7] at hf
    refine ab_iload_n (pc2 := 8) dX12_oddYear_7 rfl rfl ?_
    refine ab_if_lt (tgt := 77) (pc2 := 11) dX12_oddYear_8 (by decide) rfl hf (fun c1 hf => ?_) (fun c1 hf => ?_)
    · cases Option.some.inj hf
      exact ab_retV dX12_oddYear_77 rfl (Nat.le_refl _) (Nat.le_refl _) ⟨rfl, rfl⟩
    · refine ab_aload_n (x := _) (pc2 := 12) dX12_oddYear_11 rfl rfl ?_
      refine ab_getR (pc2 := 15) rfl ht0 fa_X12_49 dX12_oddYear_12 rfl (fun T2 => ?_)
      refine ab_iload_n (pc2 := 16) dX12_oddYear_15 rfl rfl ?_
      obtain ⟨q3, hq3, hf⟩ := ab_bind hf
      obtain ⟨b4, hf⟩ := ab_guard hf
      refine ab_iald (pc2 := 17) hq3 (T2 q3 hq3) (ab_in_vp b4) dX12_oddYear_16 rfl ?_
      refine ab_iconst (pc2 := 18) (v := 1) dX12_oddYear_17 rfl ab_k_iconst_1 ?_
      refine ab_icmp_eq (tgt := 24) (pc2 := 21) dX12_oddYear_18 (by decide) rfl hf (fun c5 hf => ?_) (fun c5 hf => ?_)
      · refine ab_aload_n (x := _) (pc2 := 25) dX12_oddYear_24 rfl rfl ?_
        refine ab_getR (pc2 := 28) rfl ht0 fa_X12_9 dX12_oddYear_25 rfl (fun T6 => ?_)
        refine ab_iconst (pc2 := 29) (v := 3) dX12_oddYear_28 rfl ab_k_iconst_3 ?_
        obtain ⟨q7, hq7, hf⟩ := ab_bind hf
        obtain ⟨b8, hf⟩ := ab_guard hf
        refine ab_iald (pc2 := 30) hq7 (T6 q7 hq7) (ab_in_vp b8) dX12_oddYear_29 rfl ?_
        refine ab_iconst (pc2 := 31) (v := 1) dX12_oddYear_30 rfl ab_k_iconst_1 ?_
        refine ab_icmp_ne (tgt := 52) (pc2 := 34) dX12_oddYear_31 (by decide) rfl hf (fun c9 hf => ?_) (fun c9 hf => ?_)
        · exact ab_weak (x_X12_oddYear_b52 ht0 ih hf) (ab_leS (ab_leS ab_le0))
        · refine ab_aload_n (x := _) (pc2 := 35) dX12_oddYear_34 rfl rfl ?_
          refine ab_iload_n (pc2 := 36) dX12_oddYear_35 rfl rfl ?_
          obtain ⟨w10, ew10, hf⟩ := ab_bind hf
          refine ab_callV (pc2 := 39) (st := []) rfl ht0 (by decide) (m_X12_isHeld (d := (d + 3)) ht0 ew10) mf_X12_isHeld tw_216 tw_215 ts_X12_isHeld (Or.inl (by decide +kernel)) dX12_oddYear_36 rfl (by omega) (Nat.le_refl _) (Nat.le_refl _) rfl (Nat.le_of_ble_eq_true rfl) (ab_kPb fun z11 => ?_)
          refine ab_if_eq (tgt := 52) (pc2 := 42) dX12_oddYear_39 (by decide) rfl hf (fun c12 hf => ?_) (fun c12 hf => ?_)
          · exact ab_weak (x_X12_oddYear_b52 ht0 ih hf) (ab_leS (ab_leS ab_le0))
          · refine ab_aload_n (x := _) (pc2 := 43) dX12_oddYear_42 rfl rfl ?_
            refine ab_getR (pc2 := 46) rfl ht0 fa_X12_49 dX12_oddYear_43 rfl (fun T13 => ?_)
            refine ab_iload_n (pc2 := 47) dX12_oddYear_46 rfl rfl ?_
            refine ab_iconst (pc2 := 48) (v := 4) dX12_oddYear_47 rfl ab_k_iconst_4 ?_
            obtain ⟨q14, hq14, hf⟩ := ab_bind hf
            obtain ⟨b15, hf⟩ := ab_guard hf
            obtain ⟨h16, eh16, hf⟩ := ab_let_x hf
            refine ab_iast (pc2 := 49) hq14 (T13 q14 hq14) (ab_in_vp b15) dX12_oddYear_48 rfl ?_
            refine ab_topH eh16 ?_
            refine ab_goto (tgt := 71) dX12_oddYear_49 (by decide) ?_
            refine ab_iinc (pc2 := 74) (v := _ + (-1)) (lo2 := [some (va_rf _), some (.int _)]) dX12_oddYear_71 rfl rfl rfl (by decide) rfl ?_
            refine ab_goto (tgt := 7) dX12_oddYear_74 (by decide) ?_
            exact ab_weak (ih _ _ hf) (ab_leS (ab_leS ab_le0))
      · refine ab_goto (tgt := 71) dX12_oddYear_21 (by decide) ?_
        refine ab_iinc (pc2 := 74) (v := _ + (-1)) (lo2 := [some (va_rf _), some (.int _)]) dX12_oddYear_71 rfl rfl rfl (by decide) rfl ?_
        refine ab_goto (tgt := 7) dX12_oddYear_74 (by decide) ?_
        exact ab_weak (ih _ _ hf) (ab_leS (ab_leS ab_le0))
set_option maxHeartbeats 4000000 in
set_option maxRecDepth 100000 in
theorem x_X12_oddYear {d : Nat} {t0 : Nat} {h : ab_HP} {r : ab_HP} (ht0 : (ab_shp t0).1 = 5) (hf : f_X12_oddYear t0 h = some r) : ab_T mX12_oddYear (d + 5) 0 0 0 0 0 [some (va_rf (some t0)), none] [] h (ab_Pv r) := by
  unfold f_X12_oddYear at hf
  refine ab_aload_n (x := _) (pc2 := 1) dX12_oddYear_0 rfl rfl ?_
  refine ab_getI (pc2 := 4) rfl ht0 fa_X12_166 (by decide) dX12_oddYear_1 rfl ?_
  refine ab_iconst (pc2 := 5) (v := 1) dX12_oddYear_4 rfl ab_k_iconst_1 ?_
  refine ab_isub (pc2 := 6) dX12_oddYear_5 rfl ?_
  refine ab_istore_n (pc2 := 7) (lo2 := [some (va_rf _), some (.int _)]) dX12_oddYear_6 rfl (by decide) rfl ?_
  exact ab_weak (x_X12_oddYear_l7 ht0 _ _ _ hf) (ab_leS (ab_leS ab_le0))
set_option maxHeartbeats 4000000 in
set_option maxRecDepth 100000 in
theorem m_X12_oddYear {d : Nat} {t0 : Nat} {h : ab_HP} {r : ab_HP} (ht0 : (ab_shp t0).1 = 5) (hf : f_X12_oddYear t0 h = some r) : ab_MET mX12_oddYear (d + 5) 0 0 [va_rf (some t0)] h (ab_Pv r) := ab_met (by decide +kernel) (by decide +kernel) (Nat.le_of_ble_eq_true rfl) rfl (x_X12_oddYear ht0 hf)
set_option maxHeartbeats 4000000 in
set_option maxRecDepth 100000 in
theorem x_X12_pairOf {d : Nat} {t0 : Nat} {h : ab_HP} {r : ab_HP} (ht0 : (ab_shp t0).1 = 5) (hf : f_X12_pairOf t0 h = some r) : ab_T mX12_pairOf (d + 6) 0 0 0 0 0 [some (va_rf (some t0))] [] h (ab_Pv r) := by
  unfold f_X12_pairOf at hf
  refine ab_aload_n (x := _) (pc2 := 1) dX12_pairOf_0 rfl rfl ?_
  obtain ⟨w1, ew1, hf⟩ := ab_bind hf
  refine ab_callV (pc2 := 4) (st := []) rfl ht0 (by decide) (m_X12_evenYear (d := (d + 2)) ht0 ew1) mf_X12_evenYear tw_220 tw_219 ts_X12_evenYear (Or.inl (by decide +kernel)) dX12_pairOf_1 rfl (by omega) (Nat.le_refl _) (Nat.le_refl _) rfl (Nat.le_of_ble_eq_true rfl) (ab_kPv ?_)
  refine ab_aload_n (x := _) (pc2 := 5) dX12_pairOf_4 rfl rfl ?_
  obtain ⟨w2, ew2, hf⟩ := ab_bind hf
  refine ab_callV (pc2 := 8) (st := []) rfl ht0 (by decide) (m_X12_oddYear (d := (d + 0)) ht0 ew2) mf_X12_oddYear tw_222 tw_221 ts_X12_oddYear (Or.inl (by decide +kernel)) dX12_pairOf_5 rfl (by omega) (Nat.le_refl _) (Nat.le_refl _) rfl (Nat.le_of_ble_eq_true rfl) (ab_kPv ?_)
  cases Option.some.inj hf
  exact ab_retV dX12_pairOf_8 rfl (Nat.le_refl _) (Nat.le_refl _) ⟨rfl, rfl⟩
set_option maxHeartbeats 4000000 in
set_option maxRecDepth 100000 in
theorem m_X12_pairOf {d : Nat} {t0 : Nat} {h : ab_HP} {r : ab_HP} (ht0 : (ab_shp t0).1 = 5) (hf : f_X12_pairOf t0 h = some r) : ab_MET mX12_pairOf (d + 6) 0 0 [va_rf (some t0)] h (ab_Pv r) := ab_met (by decide +kernel) (by decide +kernel) (Nat.le_of_ble_eq_true rfl) rfl (x_X12_pairOf ht0 hf)
set_option maxHeartbeats 4000000 in
set_option maxRecDepth 100000 in
theorem x_X12_standing_l4 {d : Nat} {t0 : Nat} {r : Int32} (ht0 : (ab_shp t0).1 = 5) : ∀ (n : Nat) (i1 : Int32) (i2 : Int32) (h : ab_HP), f_X12_standing_l4 t0 n i1 i2 h = some r → ab_T mX12_standing (d + 0) 0 0 0 0 4 [some (va_rf (some t0)), some (.int i1), some (.int i2)] [] h (ab_Pi r h) := by
  intro n
  induction n with
  | zero =>
    intro i1 i2 h hf
    rw [f_X12_standing_l4] at hf
    cases hf
  | succ n ih =>
    intro i1 i2 h hf
    rw [f_X12_standing_l4] at hf
    refine ab_iload_n (pc2 := 5) dX12_standing_4 rfl rfl ?_
    refine ab_aload_n (x := _) (pc2 := 6) dX12_standing_5 rfl rfl ?_
    refine ab_getI (pc2 := 9) rfl ht0 fa_X12_166 (by decide) dX12_standing_6 rfl ?_
    refine ab_icmp_ge (tgt := 56) (pc2 := 12) dX12_standing_9 (by decide) rfl hf (fun c1 hf => ?_) (fun c1 hf => ?_)
    · refine ab_iload_n (pc2 := 57) dX12_standing_56 rfl rfl ?_
      cases Option.some.inj hf
      exact ab_retI dX12_standing_57 (Or.inl rfl) (Nat.le_refl _) (Nat.le_refl _) ⟨rfl, rfl⟩
    · refine ab_iload_n (pc2 := 13) dX12_standing_12 rfl rfl ?_
      refine ab_aload_n (x := _) (pc2 := 14) dX12_standing_13 rfl rfl ?_
      refine ab_getR (pc2 := 17) rfl ht0 fa_X12_49 dX12_standing_14 rfl (fun T2 => ?_)
      refine ab_iload_n (pc2 := 18) dX12_standing_17 rfl rfl ?_
      obtain ⟨q3, hq3, hf⟩ := ab_bind hf
      obtain ⟨b4, hf⟩ := ab_guard hf
      refine ab_iald (pc2 := 19) hq3 (T2 q3 hq3) (ab_in_vp b4) dX12_standing_18 rfl ?_
      refine ab_iconst (pc2 := 20) (v := 2) dX12_standing_19 rfl ab_k_iconst_2 ?_
      refine ab_icmp_eq (tgt := 43) (pc2 := 23) dX12_standing_20 (by decide) rfl hf (fun c5 hf => ?_) (fun c5 hf => ?_)
      · refine ab_iconst (pc2 := 44) (v := 1) dX12_standing_43 rfl ab_k_iconst_1 ?_
        refine ab_goto (tgt := 48) dX12_standing_44 (by decide) ?_
        refine ab_iadd (pc2 := 49) dX12_standing_48 rfl ?_
        refine ab_istore_n (pc2 := 50) (lo2 := [some (va_rf _), some (.int _), some (.int _)]) dX12_standing_49 rfl (by decide) rfl ?_
        refine ab_iinc (pc2 := 53) (v := _ + 1) (lo2 := [some (va_rf _), some (.int _), some (.int _)]) dX12_standing_50 rfl rfl rfl (by decide) rfl ?_
        refine ab_goto (tgt := 4) dX12_standing_53 (by decide) ?_
        exact ab_weak (ih _ _ _ hf) (ab_leS (ab_leS (ab_leS ab_le0)))
      · refine ab_aload_n (x := _) (pc2 := 24) dX12_standing_23 rfl rfl ?_
        refine ab_getR (pc2 := 27) rfl ht0 fa_X12_49 dX12_standing_24 rfl (fun T6 => ?_)
        refine ab_iload_n (pc2 := 28) dX12_standing_27 rfl rfl ?_
        obtain ⟨q7, hq7, hf⟩ := ab_bind hf
        obtain ⟨b8, hf⟩ := ab_guard hf
        refine ab_iald (pc2 := 29) hq7 (T6 q7 hq7) (ab_in_vp b8) dX12_standing_28 rfl ?_
        refine ab_iconst (pc2 := 30) (v := 3) dX12_standing_29 rfl ab_k_iconst_3 ?_
        refine ab_icmp_eq (tgt := 43) (pc2 := 33) dX12_standing_30 (by decide) rfl hf (fun c9 hf => ?_) (fun c9 hf => ?_)
        · refine ab_iconst (pc2 := 44) (v := 1) dX12_standing_43 rfl ab_k_iconst_1 ?_
          refine ab_goto (tgt := 48) dX12_standing_44 (by decide) ?_
          refine ab_iadd (pc2 := 49) dX12_standing_48 rfl ?_
          refine ab_istore_n (pc2 := 50) (lo2 := [some (va_rf _), some (.int _), some (.int _)]) dX12_standing_49 rfl (by decide) rfl ?_
          refine ab_iinc (pc2 := 53) (v := _ + 1) (lo2 := [some (va_rf _), some (.int _), some (.int _)]) dX12_standing_50 rfl rfl rfl (by decide) rfl ?_
          refine ab_goto (tgt := 4) dX12_standing_53 (by decide) ?_
          exact ab_weak (ih _ _ _ hf) (ab_leS (ab_leS (ab_leS ab_le0)))
        · refine ab_aload_n (x := _) (pc2 := 34) dX12_standing_33 rfl rfl ?_
          refine ab_getR (pc2 := 37) rfl ht0 fa_X12_49 dX12_standing_34 rfl (fun T10 => ?_)
          refine ab_iload_n (pc2 := 38) dX12_standing_37 rfl rfl ?_
          obtain ⟨q11, hq11, hf⟩ := ab_bind hf
          obtain ⟨b12, hf⟩ := ab_guard hf
          refine ab_iald (pc2 := 39) hq11 (T10 q11 hq11) (ab_in_vp b12) dX12_standing_38 rfl ?_
          refine ab_iconst (pc2 := 40) (v := 4) dX12_standing_39 rfl ab_k_iconst_4 ?_
          refine ab_icmp_ne (tgt := 47) (pc2 := 43) dX12_standing_40 (by decide) rfl hf (fun c13 hf => ?_) (fun c13 hf => ?_)
          · refine ab_iconst (pc2 := 48) (v := 0) dX12_standing_47 rfl ab_k_iconst_0 ?_
            refine ab_iadd (pc2 := 49) dX12_standing_48 rfl ?_
            refine ab_istore_n (pc2 := 50) (lo2 := [some (va_rf _), some (.int _), some (.int _)]) dX12_standing_49 rfl (by decide) rfl ?_
            refine ab_iinc (pc2 := 53) (v := _ + 1) (lo2 := [some (va_rf _), some (.int _), some (.int _)]) dX12_standing_50 rfl rfl rfl (by decide) rfl ?_
            refine ab_goto (tgt := 4) dX12_standing_53 (by decide) ?_
            exact ab_weak (ih _ _ _ hf) (ab_leS (ab_leS (ab_leS ab_le0)))
          · refine ab_iconst (pc2 := 44) (v := 1) dX12_standing_43 rfl ab_k_iconst_1 ?_
            refine ab_goto (tgt := 48) dX12_standing_44 (by decide) ?_
            refine ab_iadd (pc2 := 49) dX12_standing_48 rfl ?_
            refine ab_istore_n (pc2 := 50) (lo2 := [some (va_rf _), some (.int _), some (.int _)]) dX12_standing_49 rfl (by decide) rfl ?_
            refine ab_iinc (pc2 := 53) (v := _ + 1) (lo2 := [some (va_rf _), some (.int _), some (.int _)]) dX12_standing_50 rfl rfl rfl (by decide) rfl ?_
            refine ab_goto (tgt := 4) dX12_standing_53 (by decide) ?_
            exact ab_weak (ih _ _ _ hf) (ab_leS (ab_leS (ab_leS ab_le0)))
set_option maxHeartbeats 4000000 in
set_option maxRecDepth 100000 in
theorem x_X12_standing {d : Nat} {t0 : Nat} {h : ab_HP} {r : Int32} (ht0 : (ab_shp t0).1 = 5) (hf : f_X12_standing t0 h = some r) : ab_T mX12_standing (d + 0) 0 0 0 0 0 [some (va_rf (some t0)), none, none] [] h (ab_Pi r h) := by
  unfold f_X12_standing at hf
  refine ab_iconst (pc2 := 1) (v := 0) dX12_standing_0 rfl ab_k_iconst_0 ?_
  refine ab_istore_n (pc2 := 2) (lo2 := [some (va_rf _), some (.int _), none]) dX12_standing_1 rfl (by decide) rfl ?_
  refine ab_iconst (pc2 := 3) (v := 0) dX12_standing_2 rfl ab_k_iconst_0 ?_
  refine ab_istore_n (pc2 := 4) (lo2 := [some (va_rf _), some (.int _), some (.int _)]) dX12_standing_3 rfl (by decide) rfl ?_
  exact ab_weak (x_X12_standing_l4 ht0 _ _ _ _ hf) (ab_leS (ab_leS (ab_leS ab_le0)))
set_option maxHeartbeats 4000000 in
set_option maxRecDepth 100000 in
theorem m_X12_standing {d : Nat} {t0 : Nat} {h : ab_HP} {r : Int32} (ht0 : (ab_shp t0).1 = 5) (hf : f_X12_standing t0 h = some r) : ab_MET mX12_standing (d + 0) 0 0 [va_rf (some t0)] h (ab_Pi r h) := ab_met (by decide +kernel) (by decide +kernel) (Nat.le_of_ble_eq_true rfl) rfl (x_X12_standing ht0 hf)
