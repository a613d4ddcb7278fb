set_option maxHeartbeats 4000000 in
set_option maxRecDepth 100000 in
theorem x_X12_element {d : Nat} {t0 : Nat} {i1 : Int32} {i2 : Int32} {h : ab_HP} {r : (Int64 × ab_HP)} (ht0 : (ab_shp t0).1 = 5) (hf : f_X12_element t0 i1 i2 h = some r) : ab_T mX12_element (d + 2) 0 0 0 0 0 [some (va_rf (some t0)), some (.int i1), some (.int i2)] [] h (ab_Pl r.1 r.2) := by
  unfold f_X12_element at hf
  refine ab_aload_n (x := _) (pc2 := 1) dX12_element_0 rfl rfl ?_
  refine ab_iload_n (pc2 := 2) dX12_element_1 rfl rfl ?_
  obtain ⟨w1, ew1, hf⟩ := ab_bind hf
  refine ab_callS (pc2 := 5) (st := [_]) (m_X12_isShelf (d := (d + 0)) ew1) mf_X12_isShelf tw_103 tw_104 dX12_element_2 rfl (by omega) (Nat.le_refl _) (Nat.le_refl _) rfl (Nat.le_of_ble_eq_true rfl) (ab_kPb fun z2 => ?_)
  refine ab_if_ne (tgt := 12) (pc2 := 8) dX12_element_5 (by decide) rfl hf (fun c3 hf => ?_) (fun c3 hf => ?_)
  · refine ab_aload_n (x := _) (pc2 := 13) dX12_element_12 rfl rfl ?_
    refine ab_getR (pc2 := 16) rfl ht0 fa_X12_19 dX12_element_13 rfl (fun T4 => ?_)
    refine ab_iload_n (pc2 := 17) dX12_element_16 rfl rfl ?_
    obtain ⟨q5, hq5, hf⟩ := ab_bind hf
    obtain ⟨b6, hf⟩ := ab_guard hf
    refine ab_iald (pc2 := 18) hq5 (T4 q5 hq5) (ab_in_vp b6) dX12_element_17 rfl ?_
    refine ab_iconst (pc2 := 19) (v := 2) dX12_element_18 rfl ab_k_iconst_2 ?_
    refine ab_icmp_ne (tgt := 40) (pc2 := 22) dX12_element_19 (by decide) rfl hf (fun c7 hf => ?_) (fun c7 hf => ?_)
    · refine ab_iconst (pc2 := 41) (v := 2) dX12_element_40 rfl ab_k_iconst_2 ?_
      refine ab_goto (tgt := 45) dX12_element_41 (by decide) ?_
      obtain ⟨h8, eh8, hf⟩ := ab_let_x hf
      refine ab_putI (pc2 := 48) rfl ht0 fa_X12_61 (Or.inl rfl) (fun z => by cases z) dX12_element_45 rfl ?_
      refine ab_topH eh8 ?_
      refine ab_aload_n (x := _) (pc2 := 49) dX12_element_48 rfl rfl ?_
      refine ab_getI (pc2 := 52) rfl ht0 fa_X12_61 (by decide) dX12_element_49 rfl ?_
      refine ab_if_ne (tgt := 70) (pc2 := 55) dX12_element_52 (by decide) rfl hf (fun c9 hf => ?_) (fun c9 hf => ?_)
      · refine ab_lconst (pc2 := 71) (v := 0) dX12_element_70 rfl rfl ?_
        cases Option.some.inj hf
        exact ab_retL dX12_element_71 rfl (Nat.le_refl _) (Nat.le_refl _) ⟨rfl, rfl⟩
      · refine ab_aload_n (x := _) (pc2 := 56) dX12_element_55 rfl rfl ?_
        refine ab_getR (pc2 := 59) rfl ht0 fa_X12_28 dX12_element_56 rfl (fun T10 => ?_)
        refine ab_bipush (pc2 := 61) (v := 100) dX12_element_59 rfl ab_k_bipush_100 ?_
        refine ab_iload_n (pc2 := 62) dX12_element_61 rfl rfl ?_
        refine ab_imul (pc2 := 63) dX12_element_62 rfl ?_
        refine ab_iload_n (pc2 := 64) dX12_element_63 rfl rfl ?_
        refine ab_iadd (pc2 := 65) dX12_element_64 rfl ?_
        obtain ⟨q11, hq11, hf⟩ := ab_bind hf
        obtain ⟨b12, hf⟩ := ab_guard hf
        refine ab_iald (pc2 := 66) hq11 (T10 q11 hq11) (ab_in_vp b12) dX12_element_65 rfl ?_
        refine ab_i2l (pc2 := 67) dX12_element_66 rfl ?_
        refine ab_goto (tgt := 71) dX12_element_67 (by decide) ?_
        cases Option.some.inj hf
        exact ab_retL dX12_element_71 rfl (Nat.le_refl _) (Nat.le_refl _) ⟨rfl, rfl⟩
    · refine ab_iload_n (pc2 := 23) dX12_element_22 rfl rfl ?_
      refine ab_i2l (pc2 := 24) dX12_element_23 rfl ?_
      refine ab_lconst (pc2 := 25) (v := 0) dX12_element_24 rfl rfl ?_
      refine ab_aload_n (x := _) (pc2 := 26) dX12_element_25 rfl rfl ?_
      refine ab_getR (pc2 := 29) rfl ht0 fa_X12_25 dX12_element_26 rfl (fun T13 => ?_)
      refine ab_iload_n (pc2 := 30) dX12_element_29 rfl rfl ?_
      obtain ⟨q14, hq14, hf⟩ := ab_bind hf
      obtain ⟨b15, hf⟩ := ab_guard hf
      refine ab_iald (pc2 := 31) hq14 (T13 q14 hq14) (ab_in_vp b15) dX12_element_30 rfl ?_
      refine ab_iconst (pc2 := 32) (v := 1) dX12_element_31 rfl ab_k_iconst_1 ?_
      refine ab_isub (pc2 := 33) dX12_element_32 rfl ?_
      refine ab_i2l (pc2 := 34) dX12_element_33 rfl ?_
      obtain ⟨w16, ew16, hf⟩ := ab_bind hf
      refine ab_callS (pc2 := 37) (st := [_]) (m_X12_isIn (d := (d + 1)) ew16) mf_X12_isIn tw_101 tw_102 dX12_element_34 rfl (by omega) (Nat.le_refl _) (Nat.le_refl _) rfl (Nat.le_of_ble_eq_true rfl) (ab_kPb fun z17 => ?_)
      refine ab_if_ne (tgt := 44) (pc2 := 40) dX12_element_37 (by decide) rfl hf (fun c18 hf => ?_) (fun c18 hf => ?_)
      · refine ab_iconst (pc2 := 45) (v := 0) dX12_element_44 rfl ab_k_iconst_0 ?_
        obtain ⟨h19, eh19, hf⟩ := ab_let_x hf
        refine ab_putI (pc2 := 48) rfl ht0 fa_X12_61 (Or.inl rfl) (fun z => by cases z) dX12_element_45 rfl ?_
        refine ab_topH eh19 ?_
        refine ab_aload_n (x := _) (pc2 := 49) dX12_element_48 rfl rfl ?_
        refine ab_getI (pc2 := 52) rfl ht0 fa_X12_61 (by decide) dX12_element_49 rfl ?_
        refine ab_if_ne (tgt := 70) (pc2 := 55) dX12_element_52 (by decide) rfl hf (fun c20 hf => ?_) (fun c20 hf => ?_)
        · refine ab_lconst (pc2 := 71) (v := 0) dX12_element_70 rfl rfl ?_
          cases Option.some.inj hf
          exact ab_retL dX12_element_71 rfl (Nat.le_refl _) (Nat.le_refl _) ⟨rfl, rfl⟩
        · refine ab_aload_n (x := _) (pc2 := 56) dX12_element_55 rfl rfl ?_
          refine ab_getR (pc2 := 59) rfl ht0 fa_X12_28 dX12_element_56 rfl (fun T21 => ?_)
          refine ab_bipush (pc2 := 61) (v := 100) dX12_element_59 rfl ab_k_bipush_100 ?_
          refine ab_iload_n (pc2 := 62) dX12_element_61 rfl rfl ?_
          refine ab_imul (pc2 := 63) dX12_element_62 rfl ?_
          refine ab_iload_n (pc2 := 64) dX12_element_63 rfl rfl ?_
          refine ab_iadd (pc2 := 65) dX12_element_64 rfl ?_
          obtain ⟨q22, hq22, hf⟩ := ab_bind hf
          obtain ⟨b23, hf⟩ := ab_guard hf
          refine ab_iald (pc2 := 66) hq22 (T21 q22 hq22) (ab_in_vp b23) dX12_element_65 rfl ?_
          refine ab_i2l (pc2 := 67) dX12_element_66 rfl ?_
          refine ab_goto (tgt := 71) dX12_element_67 (by decide) ?_
          cases Option.some.inj hf
          exact ab_retL dX12_element_71 rfl (Nat.le_refl _) (Nat.le_refl _) ⟨rfl, rfl⟩
      · refine ab_iconst (pc2 := 41) (v := 2) dX12_element_40 rfl ab_k_iconst_2 ?_
        refine ab_goto (tgt := 45) dX12_element_41 (by decide) ?_
        obtain ⟨h24, eh24, hf⟩ := ab_let_x hf
        refine ab_putI (pc2 := 48) rfl ht0 fa_X12_61 (Or.inl rfl) (fun z => by cases z) dX12_element_45 rfl ?_
        refine ab_topH eh24 ?_
        refine ab_aload_n (x := _) (pc2 := 49) dX12_element_48 rfl rfl ?_
        refine ab_getI (pc2 := 52) rfl ht0 fa_X12_61 (by decide) dX12_element_49 rfl ?_
        refine ab_if_ne (tgt := 70) (pc2 := 55) dX12_element_52 (by decide) rfl hf (fun c25 hf => ?_) (fun c25 hf => ?_)
        · refine ab_lconst (pc2 := 71) (v := 0) dX12_element_70 rfl rfl ?_
          cases Option.some.inj hf
          exact ab_retL dX12_element_71 rfl (Nat.le_refl _) (Nat.le_refl _) ⟨rfl, rfl⟩
        · refine ab_aload_n (x := _) (pc2 := 56) dX12_element_55 rfl rfl ?_
          refine ab_getR (pc2 := 59) rfl ht0 fa_X12_28 dX12_element_56 rfl (fun T26 => ?_)
          refine ab_bipush (pc2 := 61) (v := 100) dX12_element_59 rfl ab_k_bipush_100 ?_
          refine ab_iload_n (pc2 := 62) dX12_element_61 rfl rfl ?_
          refine ab_imul (pc2 := 63) dX12_element_62 rfl ?_
          refine ab_iload_n (pc2 := 64) dX12_element_63 rfl rfl ?_
          refine ab_iadd (pc2 := 65) dX12_element_64 rfl ?_
          obtain ⟨q27, hq27, hf⟩ := ab_bind hf
          obtain ⟨b28, hf⟩ := ab_guard hf
          refine ab_iald (pc2 := 66) hq27 (T26 q27 hq27) (ab_in_vp b28) dX12_element_65 rfl ?_
          refine ab_i2l (pc2 := 67) dX12_element_66 rfl ?_
          refine ab_goto (tgt := 71) dX12_element_67 (by decide) ?_
          cases Option.some.inj hf
          exact ab_retL dX12_element_71 rfl (Nat.le_refl _) (Nat.le_refl _) ⟨rfl, rfl⟩
  · refine ab_iconst (pc2 := 9) (v := 1) dX12_element_8 rfl ab_k_iconst_1 ?_
    refine ab_goto (tgt := 45) dX12_element_9 (by decide) ?_
    obtain ⟨h29, eh29, hf⟩ := ab_let_x hf
    refine ab_putI (pc2 := 48) rfl ht0 fa_X12_61 (Or.inl rfl) (fun z => by cases z) dX12_element_45 rfl ?_
    refine ab_topH eh29 ?_
    refine ab_aload_n (x := _) (pc2 := 49) dX12_element_48 rfl rfl ?_
    refine ab_getI (pc2 := 52) rfl ht0 fa_X12_61 (by decide) dX12_element_49 rfl ?_
    refine ab_if_ne (tgt := 70) (pc2 := 55) dX12_element_52 (by decide) rfl hf (fun c30 hf => ?_) (fun c30 hf => ?_)
    · refine ab_lconst (pc2 := 71) (v := 0) dX12_element_70 rfl rfl ?_
      cases Option.some.inj hf
      exact ab_retL dX12_element_71 rfl (Nat.le_refl _) (Nat.le_refl _) ⟨rfl, rfl⟩
    · refine ab_aload_n (x := _) (pc2 := 56) dX12_element_55 rfl rfl ?_
      refine ab_getR (pc2 := 59) rfl ht0 fa_X12_28 dX12_element_56 rfl (fun T31 => ?_)
      refine ab_bipush (pc2 := 61) (v := 100) dX12_element_59 rfl ab_k_bipush_100 ?_
      refine ab_iload_n (pc2 := 62) dX12_element_61 rfl rfl ?_
      refine ab_imul (pc2 := 63) dX12_element_62 rfl ?_
      refine ab_iload_n (pc2 := 64) dX12_element_63 rfl rfl ?_
      refine ab_iadd (pc2 := 65) dX12_element_64 rfl ?_
      obtain ⟨q32, hq32, hf⟩ := ab_bind hf
      obtain ⟨b33, hf⟩ := ab_guard hf
      refine ab_iald (pc2 := 66) hq32 (T31 q32 hq32) (ab_in_vp b33) dX12_element_65 rfl ?_
      refine ab_i2l (pc2 := 67) dX12_element_66 rfl ?_
      refine ab_goto (tgt := 71) dX12_element_67 (by decide) ?_
      cases Option.some.inj hf
      exact ab_retL dX12_element_71 rfl (Nat.le_refl _) (Nat.le_refl _) ⟨rfl, rfl⟩
set_option maxHeartbeats 4000000 in
set_option maxRecDepth 100000 in
theorem m_X12_element {d : Nat} {t0 : Nat} {i1 : Int32} {i2 : Int32} {h : ab_HP} {r : (Int64 × ab_HP)} (ht0 : (ab_shp t0).1 = 5) (hf : f_X12_element t0 i1 i2 h = some r) : ab_MET mX12_element (d + 2) 0 0 [va_rf (some t0), .int i1, .int i2] h (ab_Pl r.1 r.2) := ab_met (by decide +kernel) (by decide +kernel) (Nat.le_of_ble_eq_true rfl) rfl (x_X12_element ht0 hf)
set_option maxHeartbeats 4000000 in
set_option maxRecDepth 100000 in
theorem x_X12_thrown {d : Nat} {t0 : Nat} {h : ab_HP} {r : Int32} (ht0 : (ab_shp t0).1 = 5) (hf : f_X12_thrown t0 h = some r) : ab_T mX12_thrown (d + 0) 0 0 0 0 0 [some (va_rf (some t0))] [] h (ab_Pi r h) := by
  unfold f_X12_thrown at hf
  refine ab_aload_n (x := _) (pc2 := 1) dX12_thrown_0 rfl rfl ?_
  refine ab_getI (pc2 := 4) rfl ht0 fa_X12_61 (by decide) dX12_thrown_1 rfl ?_
  cases Option.some.inj hf
  exact ab_retI dX12_thrown_4 (Or.inl rfl) (Nat.le_refl _) (Nat.le_refl _) ⟨rfl, rfl⟩
set_option maxHeartbeats 4000000 in
set_option maxRecDepth 100000 in
theorem m_X12_thrown {d : Nat} {t0 : Nat} {h : ab_HP} {r : Int32} (ht0 : (ab_shp t0).1 = 5) (hf : f_X12_thrown t0 h = some r) : ab_MET mX12_thrown (d + 0) 0 0 [va_rf (some t0)] h (ab_Pi r h) := ab_met (by decide +kernel) (by decide +kernel) (Nat.le_of_ble_eq_true rfl) rfl (x_X12_thrown ht0 hf)
set_option maxHeartbeats 4000000 in
set_option maxRecDepth 100000 in
theorem x_X12_copy_l122 {d : Nat} {t0 : Nat} {r : (Int32 × ab_HP)} (ht0 : (ab_shp t0).1 = 5) : ∀ (n : Nat) (i1 : Int32) (i2 : Int32) (i3 : Int32) (i4 : Int32) (i5 : Int32) (i6 : Int32) (h : ab_HP), f_X12_copy_l122 t0 n i1 i2 i3 i4 i5 i6 h = some r → ab_T mX12_copy (d + 2) 0 0 0 0 122 [some (va_rf (some t0)), some (.int i1), some (.int i2), some (.int i3), some (.int i4), some (.int i5), some (.int i6), none] [] h (ab_Pi r.1 r.2) := by
  intro n
  induction n with
  | zero =>
    intro i1 i2 i3 i4 i5 i6 h hf
    rw [f_X12_copy_l122] at hf
    cases hf
  | succ n ih =>
    intro i1 i2 i3 i4 i5 i6 h hf
    rw [f_X12_copy_l122] at hf
    refine ab_iload (pc2 := 124) dX12_copy_122 rfl rfl ?_
    refine ab_iload (pc2 := 126) dX12_copy_124 rfl rfl ?_
    refine ab_icmp_ge (tgt := 184) (pc2 := 129) dX12_copy_126 (by decide) rfl hf (fun c41 hf => ?_) (fun c41 hf => ?_)
    · refine ab_iload (pc2 := 186) dX12_copy_184 rfl rfl ?_
      cases Option.some.inj hf
      exact ab_retI dX12_copy_186 (Or.inl rfl) (Nat.le_refl _) (Nat.le_refl _) ⟨rfl, rfl⟩
    · refine ab_iload_n (pc2 := 130) dX12_copy_129 rfl rfl ?_
      refine ab_iload (pc2 := 132) dX12_copy_130 rfl rfl ?_
      refine ab_icmp_le (tgt := 140) (pc2 := 135) dX12_copy_132 (by decide) rfl hf (fun c42 hf => ?_) (fun c42 hf => ?_)
      · refine ab_iload (pc2 := 142) dX12_copy_140 rfl rfl ?_
        refine ab_iconst (pc2 := 143) (v := 1) dX12_copy_142 rfl ab_k_iconst_1 ?_
        refine ab_isub (pc2 := 144) dX12_copy_143 rfl ?_
        refine ab_iload (pc2 := 146) dX12_copy_144 rfl rfl ?_
        refine ab_isub (pc2 := 147) dX12_copy_146 rfl ?_
        refine ab_istore (pc2 := 149) (lo2 := [some (va_rf _), some (.int _), some (.int _), some (.int _), some (.int _), some (.int _), some (.int _), some (.int _)]) dX12_copy_147 rfl (by decide) rfl ?_
        refine ab_aload_n (x := _) (pc2 := 150) dX12_copy_149 rfl rfl ?_
        refine ab_getR (pc2 := 153) rfl ht0 fa_X12_28 dX12_copy_150 rfl (fun T43 => ?_)
        refine ab_bipush (pc2 := 155) (v := 100) dX12_copy_153 rfl ab_k_bipush_100 ?_
        refine ab_iload_n (pc2 := 156) dX12_copy_155 rfl rfl ?_
        refine ab_imul (pc2 := 157) dX12_copy_156 rfl ?_
        refine ab_iload (pc2 := 159) dX12_copy_157 rfl rfl ?_
        refine ab_iadd (pc2 := 160) dX12_copy_159 rfl ?_
        refine ab_iload (pc2 := 162) dX12_copy_160 rfl rfl ?_
        refine ab_iadd (pc2 := 163) dX12_copy_162 rfl ?_
        refine ab_aload_n (x := _) (pc2 := 164) dX12_copy_163 rfl rfl ?_
        refine ab_getR (pc2 := 167) rfl ht0 fa_X12_28 dX12_copy_164 rfl (fun T44 => ?_)
        refine ab_bipush (pc2 := 169) (v := 100) dX12_copy_167 rfl ab_k_bipush_100 ?_
        refine ab_iload_n (pc2 := 170) dX12_copy_169 rfl rfl ?_
        refine ab_imul (pc2 := 171) dX12_copy_170 rfl ?_
        refine ab_iload_n (pc2 := 172) dX12_copy_171 rfl rfl ?_
        refine ab_iadd (pc2 := 173) dX12_copy_172 rfl ?_
        refine ab_iload (pc2 := 175) dX12_copy_173 rfl rfl ?_
        refine ab_iadd (pc2 := 176) dX12_copy_175 rfl ?_
        obtain ⟨q45, hq45, hf⟩ := ab_bind hf
        obtain ⟨b46, hf⟩ := ab_guard hf
        refine ab_iald (pc2 := 177) hq45 (T44 q45 hq45) (ab_in_vp b46) dX12_copy_176 rfl ?_
        obtain ⟨b47, hf⟩ := ab_guard hf
        obtain ⟨h48, eh48, hf⟩ := ab_let_x hf
        refine ab_iast (pc2 := 178) hq45 (T44 q45 hq45) (ab_in_vp b47) dX12_copy_177 rfl ?_
        refine ab_topH eh48 ?_
        refine ab_iinc (pc2 := 181) (v := _ + 1) (lo2 := [some (va_rf _), some (.int _), some (.int _), some (.int _), some (.int _), some (.int _), some (.int _), some (.int _)]) dX12_copy_178 rfl rfl rfl (by decide) rfl ?_
        refine ab_goto (tgt := 122) dX12_copy_181 (by decide) ?_
        exact ab_weak (ih _ _ _ _ _ _ _ hf) (ab_leS (ab_leS (ab_leS (ab_leS (ab_leS (ab_leS (ab_leS (ab_leN ab_le0))))))))
      · refine ab_iload (pc2 := 137) dX12_copy_135 rfl rfl ?_
        refine ab_goto (tgt := 147) dX12_copy_137 (by decide) ?_
        refine ab_istore (pc2 := 149) (lo2 := [some (va_rf _), some (.int _), some (.int _), some (.int _), some (.int _), some (.int _), some (.int _), some (.int _)]) dX12_copy_147 rfl (by decide) rfl ?_
        refine ab_aload_n (x := _) (pc2 := 150) dX12_copy_149 rfl rfl ?_
        refine ab_getR (pc2 := 153) rfl ht0 fa_X12_28 dX12_copy_150 rfl (fun T49 => ?_)
        refine ab_bipush (pc2 := 155) (v := 100) dX12_copy_153 rfl ab_k_bipush_100 ?_
        refine ab_iload_n (pc2 := 156) dX12_copy_155 rfl rfl ?_
        refine ab_imul (pc2 := 157) dX12_copy_156 rfl ?_
        refine ab_iload (pc2 := 159) dX12_copy_157 rfl rfl ?_
        refine ab_iadd (pc2 := 160) dX12_copy_159 rfl ?_
        refine ab_iload (pc2 := 162) dX12_copy_160 rfl rfl ?_
        refine ab_iadd (pc2 := 163) dX12_copy_162 rfl ?_
        refine ab_aload_n (x := _) (pc2 := 164) dX12_copy_163 rfl rfl ?_
        refine ab_getR (pc2 := 167) rfl ht0 fa_X12_28 dX12_copy_164 rfl (fun T50 => ?_)
        refine ab_bipush (pc2 := 169) (v := 100) dX12_copy_167 rfl ab_k_bipush_100 ?_
        refine ab_iload_n (pc2 := 170) dX12_copy_169 rfl rfl ?_
        refine ab_imul (pc2 := 171) dX12_copy_170 rfl ?_
        refine ab_iload_n (pc2 := 172) dX12_copy_171 rfl rfl ?_
        refine ab_iadd (pc2 := 173) dX12_copy_172 rfl ?_
        refine ab_iload (pc2 := 175) dX12_copy_173 rfl rfl ?_
        refine ab_iadd (pc2 := 176) dX12_copy_175 rfl ?_
        obtain ⟨q51, hq51, hf⟩ := ab_bind hf
        obtain ⟨b52, hf⟩ := ab_guard hf
        refine ab_iald (pc2 := 177) hq51 (T50 q51 hq51) (ab_in_vp b52) dX12_copy_176 rfl ?_
        obtain ⟨b53, hf⟩ := ab_guard hf
        obtain ⟨h54, eh54, hf⟩ := ab_let_x hf
        refine ab_iast (pc2 := 178) hq51 (T50 q51 hq51) (ab_in_vp b53) dX12_copy_177 rfl ?_
        refine ab_topH eh54 ?_
        refine ab_iinc (pc2 := 181) (v := _ + 1) (lo2 := [some (va_rf _), some (.int _), some (.int _), some (.int _), some (.int _), some (.int _), some (.int _), some (.int _)]) dX12_copy_178 rfl rfl rfl (by decide) rfl ?_
        refine ab_goto (tgt := 122) dX12_copy_181 (by decide) ?_
        exact ab_weak (ih _ _ _ _ _ _ _ hf) (ab_leS (ab_leS (ab_leS (ab_leS (ab_leS (ab_leS (ab_leS (ab_leN ab_le0))))))))
set_option maxHeartbeats 4000000 in
set_option maxRecDepth 100000 in
theorem x_X12_copy {d : Nat} {t0 : Nat} {i1 : Int32} {i2 : Int32} {i3 : Int32} {i4 : Int32} {i5 : Int32} {h : ab_HP} {r : (Int32 × ab_HP)} (ht0 : (ab_shp t0).1 = 5) (hf : f_X12_copy t0 i1 i2 i3 i4 i5 h = some r) : ab_T mX12_copy (d + 2) 0 0 0 0 0 [some (va_rf (some t0)), some (.int i1), some (.int i2), some (.int i3), some (.int i4), some (.int i5), none, none] [] h (ab_Pi r.1 r.2) := by
  unfold f_X12_copy at hf
  refine ab_iload_n (pc2 := 1) dX12_copy_0 rfl rfl ?_
  obtain ⟨w1, ew1, hf⟩ := ab_bind hf
  refine ab_callS (pc2 := 4) (st := []) (m_X12_isShelf (d := (d + 0)) ew1) mf_X12_isShelf tw_103 tw_104 dX12_copy_1 rfl (by omega) (Nat.le_refl _) (Nat.le_refl _) rfl (Nat.le_of_ble_eq_true rfl) (ab_kPb fun z2 => ?_)
  refine ab_if_eq (tgt := 14) (pc2 := 7) dX12_copy_4 (by decide) rfl hf (fun c3 hf => ?_) (fun c3 hf => ?_)
  · refine ab_iconst (pc2 := 15) (v := (-1)) dX12_copy_14 rfl ab_k_iconst_m1 ?_
    cases Option.some.inj hf
    exact ab_retI dX12_copy_15 (Or.inl rfl) (Nat.le_refl _) (Nat.le_refl _) ⟨rfl, rfl⟩
  · refine ab_iload_n (pc2 := 8) dX12_copy_7 rfl rfl ?_
    obtain ⟨w4, ew4, hf⟩ := ab_bind hf
    refine ab_callS (pc2 := 11) (st := []) (m_X12_isShelf (d := (d + 0)) ew4) mf_X12_isShelf tw_103 tw_104 dX12_copy_8 rfl (by omega) (Nat.le_refl _) (Nat.le_refl _) rfl (Nat.le_of_ble_eq_true rfl) (ab_kPb fun z5 => ?_)
    refine ab_if_ne (tgt := 16) (pc2 := 14) dX12_copy_11 (by decide) rfl hf (fun c6 hf => ?_) (fun c6 hf => ?_)
    · refine ab_aload_n (x := _) (pc2 := 17) dX12_copy_16 rfl rfl ?_
      refine ab_getR (pc2 := 20) rfl ht0 fa_X12_19 dX12_copy_17 rfl (fun T7 => ?_)
      refine ab_iload_n (pc2 := 21) dX12_copy_20 rfl rfl ?_
      obtain ⟨q8, hq8, hf⟩ := ab_bind hf
      obtain ⟨b9, hf⟩ := ab_guard hf
      refine ab_iald (pc2 := 22) hq8 (T7 q8 hq8) (ab_in_vp b9) dX12_copy_21 rfl ?_
      refine ab_if_eq (tgt := 34) (pc2 := 25) dX12_copy_22 (by decide) rfl hf (fun c10 hf => ?_) (fun c10 hf => ?_)
      · refine ab_bipush (pc2 := 36) (v := (-11)) dX12_copy_34 rfl ab_k_bipush_m11 ?_
        cases Option.some.inj hf
        exact ab_retI dX12_copy_36 (Or.inl rfl) (Nat.le_refl _) (Nat.le_refl _) ⟨rfl, rfl⟩
      · refine ab_aload_n (x := _) (pc2 := 26) dX12_copy_25 rfl rfl ?_
        refine ab_getR (pc2 := 29) rfl ht0 fa_X12_19 dX12_copy_26 rfl (fun T11 => ?_)
        refine ab_iload_n (pc2 := 30) dX12_copy_29 rfl rfl ?_
        obtain ⟨q12, hq12, hf⟩ := ab_bind hf
        obtain ⟨b13, hf⟩ := ab_guard hf
        refine ab_iald (pc2 := 31) hq12 (T11 q12 hq12) (ab_in_vp b13) dX12_copy_30 rfl ?_
        refine ab_if_ne (tgt := 37) (pc2 := 34) dX12_copy_31 (by decide) rfl hf (fun c14 hf => ?_) (fun c14 hf => ?_)
        · refine ab_aload_n (x := _) (pc2 := 38) dX12_copy_37 rfl rfl ?_
          refine ab_getR (pc2 := 41) rfl ht0 fa_X12_19 dX12_copy_38 rfl (fun T15 => ?_)
          refine ab_iload_n (pc2 := 42) dX12_copy_41 rfl rfl ?_
          obtain ⟨q16, hq16, hf⟩ := ab_bind hf
          obtain ⟨b17, hf⟩ := ab_guard hf
          refine ab_iald (pc2 := 43) hq16 (T15 q16 hq16) (ab_in_vp b17) dX12_copy_42 rfl ?_
          refine ab_iconst (pc2 := 44) (v := 2) dX12_copy_43 rfl ab_k_iconst_2 ?_
          refine ab_icmp_ne (tgt := 72) (pc2 := 47) dX12_copy_44 (by decide) rfl hf (fun c18 hf => ?_) (fun c18 hf => ?_)
          · refine ab_bipush (pc2 := 74) (v := (-12)) dX12_copy_72 rfl ab_k_bipush_m12 ?_
            cases Option.some.inj hf
            exact ab_retI dX12_copy_74 (Or.inl rfl) (Nat.le_refl _) (Nat.le_refl _) ⟨rfl, rfl⟩
          · refine ab_aload_n (x := _) (pc2 := 48) dX12_copy_47 rfl rfl ?_
            refine ab_getR (pc2 := 51) rfl ht0 fa_X12_19 dX12_copy_48 rfl (fun T19 => ?_)
            refine ab_iload_n (pc2 := 52) dX12_copy_51 rfl rfl ?_
            obtain ⟨q20, hq20, hf⟩ := ab_bind hf
            obtain ⟨b21, hf⟩ := ab_guard hf
            refine ab_iald (pc2 := 53) hq20 (T19 q20 hq20) (ab_in_vp b21) dX12_copy_52 rfl ?_
            refine ab_iconst (pc2 := 54) (v := 2) dX12_copy_53 rfl ab_k_iconst_2 ?_
            refine ab_icmp_ne (tgt := 72) (pc2 := 57) dX12_copy_54 (by decide) rfl hf (fun c22 hf => ?_) (fun c22 hf => ?_)
            · refine ab_bipush (pc2 := 74) (v := (-12)) dX12_copy_72 rfl ab_k_bipush_m12 ?_
              cases Option.some.inj hf
              exact ab_retI dX12_copy_74 (Or.inl rfl) (Nat.le_refl _) (Nat.le_refl _) ⟨rfl, rfl⟩
            · refine ab_aload_n (x := _) (pc2 := 58) dX12_copy_57 rfl rfl ?_
              refine ab_getR (pc2 := 61) rfl ht0 fa_X12_22 dX12_copy_58 rfl (fun T23 => ?_)
              refine ab_iload_n (pc2 := 62) dX12_copy_61 rfl rfl ?_
              obtain ⟨q24, hq24, hf⟩ := ab_bind hf
              obtain ⟨b25, hf⟩ := ab_guard hf
              refine ab_iald (pc2 := 63) hq24 (T23 q24 hq24) (ab_in_vp b25) dX12_copy_62 rfl ?_
              refine ab_aload_n (x := _) (pc2 := 64) dX12_copy_63 rfl rfl ?_
              refine ab_getR (pc2 := 67) rfl ht0 fa_X12_22 dX12_copy_64 rfl (fun T26 => ?_)
              refine ab_iload_n (pc2 := 68) dX12_copy_67 rfl rfl ?_
              obtain ⟨q27, hq27, hf⟩ := ab_bind hf
              obtain ⟨b28, hf⟩ := ab_guard hf
              refine ab_iald (pc2 := 69) hq27 (T26 q27 hq27) (ab_in_vp b28) dX12_copy_68 rfl ?_
              refine ab_icmp_eq (tgt := 75) (pc2 := 72) dX12_copy_69 (by decide) rfl hf (fun c29 hf => ?_) (fun c29 hf => ?_)
              · refine ab_iload (pc2 := 77) dX12_copy_75 rfl rfl ?_
                refine ab_if_lt (tgt := 116) (pc2 := 80) dX12_copy_77 (by decide) rfl hf (fun c30 hf => ?_) (fun c30 hf => ?_)
                · refine ab_bipush (pc2 := 118) (v := (-13)) dX12_copy_116 rfl ab_k_bipush_m13 ?_
                  cases Option.some.inj hf
                  exact ab_retI dX12_copy_118 (Or.inl rfl) (Nat.le_refl _) (Nat.le_refl _) ⟨rfl, rfl⟩
                · refine ab_iload_n (pc2 := 81) dX12_copy_80 rfl rfl ?_
                  refine ab_if_lt (tgt := 116) (pc2 := 84) dX12_copy_81 (by decide) rfl hf (fun c31 hf => ?_) (fun c31 hf => ?_)
                  · refine ab_bipush (pc2 := 118) (v := (-13)) dX12_copy_116 rfl ab_k_bipush_m13 ?_
                    cases Option.some.inj hf
                    exact ab_retI dX12_copy_118 (Or.inl rfl) (Nat.le_refl _) (Nat.le_refl _) ⟨rfl, rfl⟩
                  · refine ab_iload (pc2 := 86) dX12_copy_84 rfl rfl ?_
                    refine ab_if_lt (tgt := 116) (pc2 := 89) dX12_copy_86 (by decide) rfl hf (fun c32 hf => ?_) (fun c32 hf => ?_)
                    · refine ab_bipush (pc2 := 118) (v := (-13)) dX12_copy_116 rfl ab_k_bipush_m13 ?_
                      cases Option.some.inj hf
                      exact ab_retI dX12_copy_118 (Or.inl rfl) (Nat.le_refl _) (Nat.le_refl _) ⟨rfl, rfl⟩
                    · refine ab_iload (pc2 := 91) dX12_copy_89 rfl rfl ?_
                      refine ab_aload_n (x := _) (pc2 := 92) dX12_copy_91 rfl rfl ?_
                      refine ab_getR (pc2 := 95) rfl ht0 fa_X12_25 dX12_copy_92 rfl (fun T33 => ?_)
                      refine ab_iload_n (pc2 := 96) dX12_copy_95 rfl rfl ?_
                      obtain ⟨q34, hq34, hf⟩ := ab_bind hf
                      obtain ⟨b35, hf⟩ := ab_guard hf
                      refine ab_iald (pc2 := 97) hq34 (T33 q34 hq34) (ab_in_vp b35) dX12_copy_96 rfl ?_
                      refine ab_iload_n (pc2 := 98) dX12_copy_97 rfl rfl ?_
                      refine ab_isub (pc2 := 99) dX12_copy_98 rfl ?_
                      refine ab_icmp_gt (tgt := 116) (pc2 := 102) dX12_copy_99 (by decide) rfl hf (fun c36 hf => ?_) (fun c36 hf => ?_)
                      · refine ab_bipush (pc2 := 118) (v := (-13)) dX12_copy_116 rfl ab_k_bipush_m13 ?_
                        cases Option.some.inj hf
                        exact ab_retI dX12_copy_118 (Or.inl rfl) (Nat.le_refl _) (Nat.le_refl _) ⟨rfl, rfl⟩
                      · refine ab_iload (pc2 := 104) dX12_copy_102 rfl rfl ?_
                        refine ab_aload_n (x := _) (pc2 := 105) dX12_copy_104 rfl rfl ?_
                        refine ab_getR (pc2 := 108) rfl ht0 fa_X12_25 dX12_copy_105 rfl (fun T37 => ?_)
                        refine ab_iload_n (pc2 := 109) dX12_copy_108 rfl rfl ?_
                        obtain ⟨q38, hq38, hf⟩ := ab_bind hf
                        obtain ⟨b39, hf⟩ := ab_guard hf
                        refine ab_iald (pc2 := 110) hq38 (T37 q38 hq38) (ab_in_vp b39) dX12_copy_109 rfl ?_
                        refine ab_iload (pc2 := 112) dX12_copy_110 rfl rfl ?_
                        refine ab_isub (pc2 := 113) dX12_copy_112 rfl ?_
                        refine ab_icmp_le (tgt := 119) (pc2 := 116) dX12_copy_113 (by decide) rfl hf (fun c40 hf => ?_) (fun c40 hf => ?_)
                        · refine ab_iconst (pc2 := 120) (v := 0) dX12_copy_119 rfl ab_k_iconst_0 ?_
                          refine ab_istore (pc2 := 122) (lo2 := [some (va_rf _), some (.int _), some (.int _), some (.int _), some (.int _), some (.int _), some (.int _), none]) dX12_copy_120 rfl (by decide) rfl ?_
                          exact ab_weak (x_X12_copy_l122 ht0 _ _ _ _ _ _ _ _ hf) (ab_leS (ab_leS (ab_leS (ab_leS (ab_leS (ab_leS (ab_leS (ab_leN ab_le0))))))))
                        · refine ab_bipush (pc2 := 118) (v := (-13)) dX12_copy_116 rfl ab_k_bipush_m13 ?_
                          cases Option.some.inj hf
                          exact ab_retI dX12_copy_118 (Or.inl rfl) (Nat.le_refl _) (Nat.le_refl _) ⟨rfl, rfl⟩
              · refine ab_bipush (pc2 := 74) (v := (-12)) dX12_copy_72 rfl ab_k_bipush_m12 ?_
                cases Option.some.inj hf
                exact ab_retI dX12_copy_74 (Or.inl rfl) (Nat.le_refl _) (Nat.le_refl _) ⟨rfl, rfl⟩
        · refine ab_bipush (pc2 := 36) (v := (-11)) dX12_copy_34 rfl ab_k_bipush_m11 ?_
          cases Option.some.inj hf
          exact ab_retI dX12_copy_36 (Or.inl rfl) (Nat.le_refl _) (Nat.le_refl _) ⟨rfl, rfl⟩
    · refine ab_iconst (pc2 := 15) (v := (-1)) dX12_copy_14 rfl ab_k_iconst_m1 ?_
      cases Option.some.inj hf
      exact ab_retI dX12_copy_15 (Or.inl rfl) (Nat.le_refl _) (Nat.le_refl _) ⟨rfl, rfl⟩
set_option maxHeartbeats 4000000 in
set_option maxRecDepth 100000 in
theorem m_X12_copy {d : Nat} {t0 : Nat} {i1 : Int32} {i2 : Int32} {i3 : Int32} {i4 : Int32} {i5 : Int32} {h : ab_HP} {r : (Int32 × ab_HP)} (ht0 : (ab_shp t0).1 = 5) (hf : f_X12_copy t0 i1 i2 i3 i4 i5 h = some r) : ab_MET mX12_copy (d + 2) 0 0 [va_rf (some t0), .int i1, .int i2, .int i3, .int i4, .int i5] h (ab_Pi r.1 r.2) := ab_met (by decide +kernel) (by decide +kernel) (Nat.le_of_ble_eq_true rfl) rfl (x_X12_copy ht0 hf)
set_option maxHeartbeats 4000000 in
set_option maxRecDepth 100000 in
theorem x_X12_wrongKept {d : Nat} {t0 : Nat} {i1 : Int32} {h : ab_HP} {r : Int32} (ht0 : (ab_shp t0).1 = 5) (hf : f_X12_wrongKept t0 i1 h = some r) : ab_T mX12_wrongKept (d + 2) 0 0 0 0 0 [some (va_rf (some t0)), some (.int i1)] [] h (ab_Pi r h) := by
  unfold f_X12_wrongKept at hf
  refine ab_iload_n (pc2 := 1) dX12_wrongKept_0 rfl rfl ?_
  obtain ⟨w1, ew1, hf⟩ := ab_bind hf
  refine ab_callS (pc2 := 4) (st := []) (m_X12_isShelf (d := (d + 0)) ew1) mf_X12_isShelf tw_103 tw_104 dX12_wrongKept_1 rfl (by omega) (Nat.le_refl _) (Nat.le_refl _) rfl (Nat.le_of_ble_eq_true rfl) (ab_kPb fun z2 => ?_)
  refine ab_if_ne (tgt := 11) (pc2 := 7) dX12_wrongKept_4 (by decide) rfl hf (fun c3 hf => ?_) (fun c3 hf => ?_)
  · refine ab_aload_n (x := _) (pc2 := 12) dX12_wrongKept_11 rfl rfl ?_
    refine ab_getR (pc2 := 15) rfl ht0 fa_X12_19 dX12_wrongKept_12 rfl (fun T4 => ?_)
    refine ab_iload_n (pc2 := 16) dX12_wrongKept_15 rfl rfl ?_
    obtain ⟨q5, hq5, hf⟩ := ab_bind hf
    obtain ⟨b6, hf⟩ := ab_guard hf
    refine ab_iald (pc2 := 17) hq5 (T4 q5 hq5) (ab_in_vp b6) dX12_wrongKept_16 rfl ?_
    refine ab_if_ne (tgt := 25) (pc2 := 20) dX12_wrongKept_17 (by decide) rfl hf (fun c7 hf => ?_) (fun c7 hf => ?_)
    · refine ab_aload_n (x := _) (pc2 := 26) dX12_wrongKept_25 rfl rfl ?_
      refine ab_getR (pc2 := 29) rfl ht0 fa_X12_19 dX12_wrongKept_26 rfl (fun T8 => ?_)
      refine ab_iload_n (pc2 := 30) dX12_wrongKept_29 rfl rfl ?_
      obtain ⟨q9, hq9, hf⟩ := ab_bind hf
      obtain ⟨b10, hf⟩ := ab_guard hf
      refine ab_iald (pc2 := 31) hq9 (T8 q9 hq9) (ab_in_vp b10) dX12_wrongKept_30 rfl ?_
      refine ab_iconst (pc2 := 32) (v := 1) dX12_wrongKept_31 rfl ab_k_iconst_1 ?_
      refine ab_icmp_ne (tgt := 39) (pc2 := 35) dX12_wrongKept_32 (by decide) rfl hf (fun c11 hf => ?_) (fun c11 hf => ?_)
      · refine ab_bipush (pc2 := 41) (v := (-12)) dX12_wrongKept_39 rfl ab_k_bipush_m12 ?_
        cases Option.some.inj hf
        exact ab_retI dX12_wrongKept_41 (Or.inl rfl) (Nat.le_refl _) (Nat.le_refl _) ⟨rfl, rfl⟩
      · refine ab_iconst (pc2 := 36) (v := 0) dX12_wrongKept_35 rfl ab_k_iconst_0 ?_
        refine ab_goto (tgt := 41) dX12_wrongKept_36 (by decide) ?_
        cases Option.some.inj hf
        exact ab_retI dX12_wrongKept_41 (Or.inl rfl) (Nat.le_refl _) (Nat.le_refl _) ⟨rfl, rfl⟩
    · refine ab_bipush (pc2 := 22) (v := (-11)) dX12_wrongKept_20 rfl ab_k_bipush_m11 ?_
      refine ab_goto (tgt := 41) dX12_wrongKept_22 (by decide) ?_
      cases Option.some.inj hf
      exact ab_retI dX12_wrongKept_41 (Or.inl rfl) (Nat.le_refl _) (Nat.le_refl _) ⟨rfl, rfl⟩
  · refine ab_iconst (pc2 := 8) (v := (-1)) dX12_wrongKept_7 rfl ab_k_iconst_m1 ?_
    refine ab_goto (tgt := 41) dX12_wrongKept_8 (by decide) ?_
    cases Option.some.inj hf
    exact ab_retI dX12_wrongKept_41 (Or.inl rfl) (Nat.le_refl _) (Nat.le_refl _) ⟨rfl, rfl⟩
set_option maxHeartbeats 4000000 in
set_option maxRecDepth 100000 in
theorem m_X12_wrongKept {d : Nat} {t0 : Nat} {i1 : Int32} {h : ab_HP} {r : Int32} (ht0 : (ab_shp t0).1 = 5) (hf : f_X12_wrongKept t0 i1 h = some r) : ab_MET mX12_wrongKept (d + 2) 0 0 [va_rf (some t0), .int i1] h (ab_Pi r h) := ab_met (by decide +kernel) (by decide +kernel) (Nat.le_of_ble_eq_true rfl) rfl (x_X12_wrongKept ht0 hf)
set_option maxHeartbeats 4000000 in
set_option maxRecDepth 100000 in
theorem x_X12_care {d : Nat} {t0 : Nat} {i1 : Int32} {h : ab_HP} {r : Int32} (ht0 : (ab_shp t0).1 = 5) (hf : f_X12_care t0 i1 h = some r) : ab_T mX12_care (d + 3) 0 0 0 0 0 [some (va_rf (some t0)), some (.int i1), none] [] h (ab_Pi r h) := by
  unfold f_X12_care at hf
  refine ab_aload_n (x := _) (pc2 := 1) dX12_care_0 rfl rfl ?_
  refine ab_iload_n (pc2 := 2) dX12_care_1 rfl rfl ?_
  obtain ⟨w1, ew1, hf⟩ := ab_bind hf
  refine ab_callV (pc2 := 5) (st := []) rfl ht0 (by decide) (m_X12_wrongKept (d := (d + 0)) ht0 ew1) mf_X12_wrongKept tw_346 tw_345 ts_X12_wrongKept (Or.inl (by decide +kernel)) dX12_care_2 rfl (by omega) (Nat.le_refl _) (Nat.le_refl _) rfl (Nat.le_of_ble_eq_true rfl) (ab_kPi ?_)
  refine ab_istore_n (pc2 := 6) (lo2 := [some (va_rf _), some (.int _), some (.int _)]) dX12_care_5 rfl (by decide) rfl ?_
  refine ab_iload_n (pc2 := 7) dX12_care_6 rfl rfl ?_
  refine ab_if_eq (tgt := 14) (pc2 := 10) dX12_care_7 (by decide) rfl hf (fun c2 hf => ?_) (fun c2 hf => ?_)
  · refine ab_aload_n (x := _) (pc2 := 15) dX12_care_14 rfl rfl ?_
    refine ab_getR (pc2 := 18) rfl ht0 fa_X12_31 dX12_care_15 rfl (fun T3 => ?_)
    refine ab_iload_n (pc2 := 19) dX12_care_18 rfl rfl ?_
    obtain ⟨q4, hq4, hf⟩ := ab_bind hf
    obtain ⟨b5, hf⟩ := ab_guard hf
    refine ab_iald (pc2 := 20) hq4 (T3 q4 hq4) (ab_in_vp b5) dX12_care_19 rfl ?_
    cases Option.some.inj hf
    exact ab_retI dX12_care_20 (Or.inl rfl) (Nat.le_refl _) (Nat.le_refl _) ⟨rfl, rfl⟩
  · refine ab_iload_n (pc2 := 11) dX12_care_10 rfl rfl ?_
    refine ab_goto (tgt := 20) dX12_care_11 (by decide) ?_
    cases Option.some.inj hf
    exact ab_retI dX12_care_20 (Or.inl rfl) (Nat.le_refl _) (Nat.le_refl _) ⟨rfl, rfl⟩
set_option maxHeartbeats 4000000 in
set_option maxRecDepth 100000 in
theorem m_X12_care {d : Nat} {t0 : Nat} {i1 : Int32} {h : ab_HP} {r : Int32} (ht0 : (ab_shp t0).1 = 5) (hf : f_X12_care t0 i1 h = some r) : ab_MET mX12_care (d + 3) 0 0 [va_rf (some t0), .int i1] h (ab_Pi r h) := ab_met (by decide +kernel) (by decide +kernel) (Nat.le_of_ble_eq_true rfl) rfl (x_X12_care ht0 hf)
set_option maxHeartbeats 4000000 in
set_option maxRecDepth 100000 in
theorem x_X12_toss {d : Nat} {t0 : Nat} {i1 : Int32} {h : ab_HP} {r : Int32} (ht0 : (ab_shp t0).1 = 5) (hf : f_X12_toss t0 i1 h = some r) : ab_T mX12_toss (d + 3) 0 0 0 0 0 [some (va_rf (some t0)), some (.int i1), none] [] h (ab_Pi r h) := by
  unfold f_X12_toss at hf
  refine ab_aload_n (x := _) (pc2 := 1) dX12_toss_0 rfl rfl ?_
  refine ab_iload_n (pc2 := 2) dX12_toss_1 rfl rfl ?_
  obtain ⟨w1, ew1, hf⟩ := ab_bind hf
  refine ab_callV (pc2 := 5) (st := []) rfl ht0 (by decide) (m_X12_wrongKept (d := (d + 0)) ht0 ew1) mf_X12_wrongKept tw_346 tw_345 ts_X12_wrongKept (Or.inl (by decide +kernel)) dX12_toss_2 rfl (by omega) (Nat.le_refl _) (Nat.le_refl _) rfl (Nat.le_of_ble_eq_true rfl) (ab_kPi ?_)
  refine ab_istore_n (pc2 := 6) (lo2 := [some (va_rf _), some (.int _), some (.int _)]) dX12_toss_5 rfl (by decide) rfl ?_
  refine ab_iload_n (pc2 := 7) dX12_toss_6 rfl rfl ?_
  refine ab_if_eq (tgt := 14) (pc2 := 10) dX12_toss_7 (by decide) rfl hf (fun c2 hf => ?_) (fun c2 hf => ?_)
  · refine ab_aload_n (x := _) (pc2 := 15) dX12_toss_14 rfl rfl ?_
    refine ab_getR (pc2 := 18) rfl ht0 fa_X12_34 dX12_toss_15 rfl (fun T3 => ?_)
    refine ab_iload_n (pc2 := 19) dX12_toss_18 rfl rfl ?_
    obtain ⟨q4, hq4, hf⟩ := ab_bind hf
    obtain ⟨b5, hf⟩ := ab_guard hf
    refine ab_iald (pc2 := 20) hq4 (T3 q4 hq4) (ab_in_vp b5) dX12_toss_19 rfl ?_
    cases Option.some.inj hf
    exact ab_retI dX12_toss_20 (Or.inl rfl) (Nat.le_refl _) (Nat.le_refl _) ⟨rfl, rfl⟩
  · refine ab_iload_n (pc2 := 11) dX12_toss_10 rfl rfl ?_
    refine ab_goto (tgt := 20) dX12_toss_11 (by decide) ?_
    cases Option.some.inj hf
    exact ab_retI dX12_toss_20 (Or.inl rfl) (Nat.le_refl _) (Nat.le_refl _) ⟨rfl, rfl⟩
set_option maxHeartbeats 4000000 in
set_option maxRecDepth 100000 in
theorem m_X12_toss {d : Nat} {t0 : Nat} {i1 : Int32} {h : ab_HP} {r : Int32} (ht0 : (ab_shp t0).1 = 5) (hf : f_X12_toss t0 i1 h = some r) : ab_MET mX12_toss (d + 3) 0 0 [va_rf (some t0), .int i1] h (ab_Pi r h) := ab_met (by decide +kernel) (by decide +kernel) (Nat.le_of_ble_eq_true rfl) rfl (x_X12_toss ht0 hf)
