set_option maxHeartbeats 4000000 in
set_option maxRecDepth 100000 in
theorem x_X12_lines_l141 {d : Nat} {self : Nat → Int32 → Int32 → Int32 → Int32 → ab_HP → Option ab_HP} {t0 : Nat} {r : ab_HP} (hself : ∀ (t : Nat) (a1 : Int32) (a2 : Int32) (a3 : Int32) (a4 : Int32) (h w : ab_HP), (ab_shp t).1 = 5 → self t a1 a2 a3 a4 h = some w → ab_MET mX12_lines d 0 0 [va_rf (some t), .int a1, .int a2, .int a3, .int a4] h (ab_Pv w)) (ht0 : (ab_shp t0).1 = 5) : ∀ (n : Nat) (i1 : Int32) (i2 : Int32) (i3 : Int32) (i4 : Int32) (i5 : Int32) (i6 : Int32) (h : ab_HP), f_X12_lines_l141 self t0 n i1 i2 i3 i4 i5 i6 h = some r → ab_T mX12_lines (d + 8) 0 0 0 0 141 [some (va_rf (some t0)), some (.int i1), some (.int i2), some (.int i3), some (.int i4), some (.int i5), some (.int i6)] [] h (ab_Pv r) := by
  intro n
  induction n with
  | zero =>
    intro i1 i2 i3 i4 i5 i6 h hf
    rw [f_X12_lines_l141] at hf
    cases hf
  | succ n ih =>
    intro i1 i2 i3 i4 i5 i6 h hf
    rw [f_X12_lines_l141] at hf
    refine ab_iload (pc2 := 143) dX12_lines_141 rfl rfl ?_
    refine ab_iload (pc2 := 145) dX12_lines_143 rfl rfl ?_
    refine ab_icmp_ge (tgt := 191) (pc2 := 148) dX12_lines_145 (by decide) rfl hf (fun c5 hf => ?_) (fun c5 hf => ?_)
    · cases Option.some.inj hf
      exact ab_retV dX12_lines_191 rfl (Nat.le_refl _) (Nat.le_refl _) ⟨rfl, rfl⟩
    · refine ab_iload_n (pc2 := 149) dX12_lines_148 rfl rfl ?_
      refine ab_iload (pc2 := 151) dX12_lines_149 rfl rfl ?_
      refine ab_ishr (pc2 := 152) dX12_lines_151 rfl ?_
      refine ab_iconst (pc2 := 153) (v := 1) dX12_lines_152 rfl ab_k_iconst_1 ?_
      refine ab_iand (pc2 := 154) dX12_lines_153 rfl ?_
      refine ab_iconst (pc2 := 155) (v := 1) dX12_lines_154 rfl ab_k_iconst_1 ?_
      refine ab_icmp_ne (tgt := 161) (pc2 := 158) dX12_lines_155 (by decide) rfl hf (fun c6 hf => ?_) (fun c6 hf => ?_)
      · refine ab_aload_n (x := _) (pc2 := 162) dX12_lines_161 rfl rfl ?_
        refine ab_getR (pc2 := 165) rfl ht0 fa_X12_55 dX12_lines_162 rfl (fun T7 => ?_)
        refine ab_iload_n (pc2 := 166) dX12_lines_165 rfl rfl ?_
        refine ab_iload (pc2 := 168) dX12_lines_166 rfl rfl ?_
        obtain ⟨q8, hq8, hf⟩ := ab_bind hf
        obtain ⟨b9, hf⟩ := ab_guard hf
        obtain ⟨h10, eh10, hf⟩ := ab_let_x hf
        refine ab_iast (pc2 := 169) hq8 (T7 q8 hq8) (ab_in_vp b9) dX12_lines_168 rfl ?_
        refine ab_topH eh10 ?_
        refine ab_aload_n (x := _) (pc2 := 170) dX12_lines_169 rfl rfl ?_
        refine ab_iload_n (pc2 := 171) dX12_lines_170 rfl rfl ?_
        refine ab_iload_n (pc2 := 172) dX12_lines_171 rfl rfl ?_
        refine ab_iconst (pc2 := 173) (v := 1) dX12_lines_172 rfl ab_k_iconst_1 ?_
        refine ab_iadd (pc2 := 174) dX12_lines_173 rfl ?_
        refine ab_iload_n (pc2 := 175) dX12_lines_174 rfl rfl ?_
        refine ab_iconst (pc2 := 176) (v := 1) dX12_lines_175 rfl ab_k_iconst_1 ?_
        refine ab_iload (pc2 := 178) dX12_lines_176 rfl rfl ?_
        refine ab_ishl (pc2 := 179) dX12_lines_178 rfl ?_
        refine ab_ior (pc2 := 180) dX12_lines_179 rfl ?_
        refine ab_iload (pc2 := 182) dX12_lines_180 rfl rfl ?_
        obtain ⟨w11, ew11, hf⟩ := ab_bind hf
        refine ab_callV (pc2 := 185) (st := []) rfl ht0 (by decide) (hself _ _ _ _ _ _ _ ht0 ew11) mf_X12_lines tw_264 tw_263 ts_X12_lines (Or.inl (by decide +kernel)) dX12_lines_182 rfl (by omega) (Nat.le_refl _) (Nat.le_refl _) rfl (Nat.le_of_ble_eq_true rfl) (ab_kPv ?_)
        refine ab_iinc (pc2 := 188) (v := _ + 1) (lo2 := [some (va_rf _), some (.int _), some (.int _), some (.int _), some (.int _), some (.int _), some (.int _)]) dX12_lines_185 rfl rfl rfl (by decide) rfl ?_
        refine ab_goto (tgt := 141) dX12_lines_188 (by decide) ?_
        exact ab_weak (ih _ _ _ _ _ _ _ hf) (ab_leS (ab_leS (ab_leS (ab_leS (ab_leS (ab_leS (ab_leS ab_le0)))))))
      · refine ab_goto (tgt := 185) dX12_lines_158 (by decide) ?_
        refine ab_iinc (pc2 := 188) (v := _ + 1) (lo2 := [some (va_rf _), some (.int _), some (.int _), some (.int _), some (.int _), some (.int _), some (.int _)]) dX12_lines_185 rfl rfl rfl (by decide) rfl ?_
        refine ab_goto (tgt := 141) dX12_lines_188 (by decide) ?_
        exact ab_weak (ih _ _ _ _ _ _ _ hf) (ab_leS (ab_leS (ab_leS (ab_leS (ab_leS (ab_leS (ab_leS ab_le0)))))))
set_option maxHeartbeats 4000000 in
set_option maxRecDepth 100000 in
theorem x_X12_lines_l107 {d : Nat} {self : Nat → Int32 → Int32 → Int32 → Int32 → ab_HP → Option ab_HP} {t0 : Nat} {r : ab_HP} (hself : ∀ (t : Nat) (a1 : Int32) (a2 : Int32) (a3 : Int32) (a4 : Int32) (h w : ab_HP), (ab_shp t).1 = 5 → self t a1 a2 a3 a4 h = some w → ab_MET mX12_lines d 0 0 [va_rf (some t), .int a1, .int a2, .int a3, .int a4] h (ab_Pv w)) (ht0 : (ab_shp t0).1 = 5) : ∀ (n : Nat) (i6 : Int32) (h : ab_HP), f_X12_lines_l107 self t0 n i6 h = some r → ab_T mX12_lines (d + 8) 0 0 0 0 107 [some (va_rf (some t0)), none, none, none, none, none, some (.int i6)] [] h (ab_Pv r) := by
  intro n
  induction n with
  | zero =>
    intro i6 h hf
    rw [f_X12_lines_l107] at hf
    cases hf
  | succ n ih =>
    intro i6 h hf
    rw [f_X12_lines_l107] at hf
    refine ab_iload (pc2 := 109) dX12_lines_107 rfl rfl ?_
    refine ab_if_lt (tgt := 137) (pc2 := 112) dX12_lines_109 (by decide) rfl hf (fun c32 hf => ?_) (fun c32 hf => ?_)
    · cases Option.some.inj hf
      exact ab_retV dX12_lines_137 rfl (Nat.le_refl _) (Nat.le_refl _) ⟨rfl, rfl⟩
    · refine ab_aload_n (x := _) (pc2 := 113) dX12_lines_112 rfl rfl ?_
      refine ab_bipush (pc2 := 115) (v := 10) dX12_lines_113 rfl ab_k_bipush_10 ?_
      refine ab_aload_n (x := _) (pc2 := 116) dX12_lines_115 rfl rfl ?_
      refine ab_getI (pc2 := 119) rfl ht0 fa_X12_249 (by decide) dX12_lines_116 rfl ?_
      refine ab_imul (pc2 := 120) dX12_lines_119 rfl ?_
      refine ab_aload_n (x := _) (pc2 := 121) dX12_lines_120 rfl rfl ?_
      refine ab_getR (pc2 := 124) rfl ht0 fa_X12_55 dX12_lines_121 rfl (fun T33 => ?_)
      refine ab_iload (pc2 := 126) dX12_lines_124 rfl rfl ?_
      obtain ⟨q34, hq34, hf⟩ := ab_bind hf
      obtain ⟨b35, hf⟩ := ab_guard hf
      refine ab_iald (pc2 := 127) hq34 (T33 q34 hq34) (ab_in_vp b35) dX12_lines_126 rfl ?_
      refine ab_iadd (pc2 := 128) dX12_lines_127 rfl ?_
      obtain ⟨h36, eh36, hf⟩ := ab_let_x hf
      refine ab_putI (pc2 := 131) rfl ht0 fa_X12_249 (Or.inl rfl) (fun z => by cases z) dX12_lines_128 rfl ?_
      refine ab_topH eh36 ?_
      refine ab_iinc (pc2 := 134) (v := _ + (-1)) (lo2 := [some (va_rf _), none, none, none, none, none, some (.int _)]) dX12_lines_131 rfl rfl rfl (by decide) rfl ?_
      refine ab_goto (tgt := 107) dX12_lines_134 (by decide) ?_
      exact ab_weak (ih _ _ hf) (ab_leS (ab_leN (ab_leN (ab_leN (ab_leN (ab_leN (ab_leS ab_le0)))))))
set_option maxHeartbeats 4000000 in
set_option maxRecDepth 100000 in
theorem x_X12_lines_b85 {d : Nat} {self : Nat → Int32 → Int32 → Int32 → Int32 → ab_HP → Option ab_HP} {t0 : Nat} {i5 : Int32} {h : ab_HP} {r : ab_HP} (hself : ∀ (t : Nat) (a1 : Int32) (a2 : Int32) (a3 : Int32) (a4 : Int32) (h w : ab_HP), (ab_shp t).1 = 5 → self t a1 a2 a3 a4 h = some w → ab_MET mX12_lines d 0 0 [va_rf (some t), .int a1, .int a2, .int a3, .int a4] h (ab_Pv w)) (ht0 : (ab_shp t0).1 = 5) (hf : f_X12_lines_b85 self t0 i5 h = some r) : ab_T mX12_lines (d + 8) 0 0 0 0 85 [some (va_rf (some t0)), none, none, none, none, some (.int i5), none] [] h (ab_Pv r) := by
  unfold f_X12_lines_b85 at hf
  refine ab_aload_n (x := _) (pc2 := 86) dX12_lines_85 rfl rfl ?_
  refine ab_aload_n (x := _) (pc2 := 87) dX12_lines_86 rfl rfl ?_
  refine ab_getI (pc2 := 90) rfl ht0 fa_X12_232 (by decide) dX12_lines_87 rfl ?_
  obtain ⟨w29, ew29, hf⟩ := ab_bind hf
  refine ab_callS (pc2 := 93) (st := [_]) (m_X12_bits (d := (d + 7)) ew29) mf_X12_bits tw_246 tw_247 dX12_lines_90 rfl (by omega) (Nat.le_refl _) (Nat.le_refl _) rfl (Nat.le_of_ble_eq_true rfl) (ab_kPi ?_)
  obtain ⟨h30, eh30, hf⟩ := ab_let_x hf
  refine ab_putI (pc2 := 96) rfl ht0 fa_X12_246 (Or.inl rfl) (fun z => by cases z) dX12_lines_93 rfl ?_
  refine ab_topH eh30 ?_
  refine ab_aload_n (x := _) (pc2 := 97) dX12_lines_96 rfl rfl ?_
  refine ab_iconst (pc2 := 98) (v := 0) dX12_lines_97 rfl ab_k_iconst_0 ?_
  obtain ⟨h31, eh31, hf⟩ := ab_let_x hf
  refine ab_putI (pc2 := 101) rfl ht0 fa_X12_249 (Or.inl rfl) (fun z => by cases z) dX12_lines_98 rfl ?_
  refine ab_topH eh31 ?_
  refine ab_iload (pc2 := 103) dX12_lines_101 rfl rfl ?_
  refine ab_iconst (pc2 := 104) (v := 1) dX12_lines_103 rfl ab_k_iconst_1 ?_
  refine ab_isub (pc2 := 105) dX12_lines_104 rfl ?_
  refine ab_istore (pc2 := 107) (lo2 := [some (va_rf _), none, none, none, none, some (.int _), some (.int _)]) dX12_lines_105 rfl (by decide) rfl ?_
  exact ab_weak (x_X12_lines_l107 hself ht0 _ _ _ hf) (ab_leS (ab_leN (ab_leN (ab_leN (ab_leN (ab_leN (ab_leS ab_le0)))))))
set_option maxHeartbeats 4000000 in
set_option maxRecDepth 100000 in
theorem x_X12_lines_l17 {d : Nat} {self : Nat → Int32 → Int32 → Int32 → Int32 → ab_HP → Option ab_HP} {t0 : Nat} {r : ab_HP} (hself : ∀ (t : Nat) (a1 : Int32) (a2 : Int32) (a3 : Int32) (a4 : Int32) (h w : ab_HP), (ab_shp t).1 = 5 → self t a1 a2 a3 a4 h = some w → ab_MET mX12_lines d 0 0 [va_rf (some t), .int a1, .int a2, .int a3, .int a4] h (ab_Pv w)) (ht0 : (ab_shp t0).1 = 5) : ∀ (n : Nat) (i1 : Int32) (i4 : Int32) (i5 : Int32) (i6 : Int32) (h : ab_HP), f_X12_lines_l17 self t0 n i1 i4 i5 i6 h = some r → ab_T mX12_lines (d + 8) 0 0 0 0 17 [some (va_rf (some t0)), some (.int i1), none, none, some (.int i4), some (.int i5), some (.int i6)] [] h (ab_Pv r) := by
  intro n
  induction n with
  | zero =>
    intro i1 i4 i5 i6 h hf
    rw [f_X12_lines_l17] at hf
    cases hf
  | succ n ih =>
    intro i1 i4 i5 i6 h hf
    rw [f_X12_lines_l17] at hf
    refine ab_iload (pc2 := 19) dX12_lines_17 rfl rfl ?_
    refine ab_iload (pc2 := 21) dX12_lines_19 rfl rfl ?_
    refine ab_icmp_ge (tgt := 54) (pc2 := 24) dX12_lines_21 (by decide) rfl hf (fun c12 hf => ?_) (fun c12 hf => ?_)
    · refine ab_aload_n (x := _) (pc2 := 55) dX12_lines_54 rfl rfl ?_
      refine ab_iload (pc2 := 57) dX12_lines_55 rfl rfl ?_
      obtain ⟨w13, ew13, hf⟩ := ab_bind hf
      refine ab_callV (pc2 := 60) (st := []) rfl ht0 (by decide) (m_X12_finds (d := (d + 0)) ht0 ew13) mf_X12_finds tw_250 tw_249 ts_X12_finds (Or.inl (by decide +kernel)) dX12_lines_57 rfl (by omega) (Nat.le_refl _) (Nat.le_refl _) rfl (Nat.le_of_ble_eq_true rfl) (ab_kPb fun z14 => ?_)
      refine ab_if_eq (tgt := 84) (pc2 := 63) dX12_lines_60 (by decide) rfl hf (fun c15 hf => ?_) (fun c15 hf => ?_)
      · cases Option.some.inj hf
        exact ab_retV dX12_lines_84 rfl (Nat.le_refl _) (Nat.le_refl _) ⟨rfl, rfl⟩
      · refine ab_aload_n (x := _) (pc2 := 64) dX12_lines_63 rfl rfl ?_
        refine ab_getI (pc2 := 67) rfl ht0 fa_X12_246 (by decide) dX12_lines_64 rfl ?_
        refine ab_if_lt (tgt := 85) (pc2 := 70) dX12_lines_67 (by decide) rfl hf (fun c16 hf => ?_) (fun c16 hf => ?_)
        · exact ab_weak (x_X12_lines_b85 hself ht0 hf) (ab_leS (ab_leN (ab_leN (ab_leN (ab_leN (ab_leS (ab_leN ab_le0)))))))
        · refine ab_aload_n (x := _) (pc2 := 71) dX12_lines_70 rfl rfl ?_
          refine ab_getI (pc2 := 74) rfl ht0 fa_X12_232 (by decide) dX12_lines_71 rfl ?_
          obtain ⟨w17, ew17, hf⟩ := ab_bind hf
          refine ab_callS (pc2 := 77) (st := []) (m_X12_bits (d := (d + 7)) ew17) mf_X12_bits tw_246 tw_247 dX12_lines_74 rfl (by omega) (Nat.le_refl _) (Nat.le_refl _) rfl (Nat.le_of_ble_eq_true rfl) (ab_kPi ?_)
          refine ab_aload_n (x := _) (pc2 := 78) dX12_lines_77 rfl rfl ?_
          refine ab_getI (pc2 := 81) rfl ht0 fa_X12_246 (by decide) dX12_lines_78 rfl ?_
          refine ab_icmp_lt (tgt := 85) (pc2 := 84) dX12_lines_81 (by decide) rfl hf (fun c18 hf => ?_) (fun c18 hf => ?_)
          · exact ab_weak (x_X12_lines_b85 hself ht0 hf) (ab_leS (ab_leN (ab_leN (ab_leN (ab_leN (ab_leS (ab_leN ab_le0)))))))
          · cases Option.some.inj hf
            exact ab_retV dX12_lines_84 rfl (Nat.le_refl _) (Nat.le_refl _) ⟨rfl, rfl⟩
    · refine ab_aload_n (x := _) (pc2 := 25) dX12_lines_24 rfl rfl ?_
      refine ab_getR (pc2 := 28) rfl ht0 fa_X12_40 dX12_lines_25 rfl (fun T19 => ?_)
      refine ab_iload (pc2 := 30) dX12_lines_28 rfl rfl ?_
      refine ab_aload_n (x := _) (pc2 := 31) dX12_lines_30 rfl rfl ?_
      refine ab_getR (pc2 := 34) rfl ht0 fa_X12_28 dX12_lines_31 rfl (fun T20 => ?_)
      refine ab_bipush (pc2 := 36) (v := 100) dX12_lines_34 rfl ab_k_bipush_100 ?_
      refine ab_iload_n (pc2 := 37) dX12_lines_36 rfl rfl ?_
      refine ab_imul (pc2 := 38) dX12_lines_37 rfl ?_
      refine ab_aload_n (x := _) (pc2 := 39) dX12_lines_38 rfl rfl ?_
      refine ab_getR (pc2 := 42) rfl ht0 fa_X12_55 dX12_lines_39 rfl (fun T21 => ?_)
      refine ab_iload (pc2 := 44) dX12_lines_42 rfl rfl ?_
      obtain ⟨q22, hq22, hf⟩ := ab_bind hf
      obtain ⟨b23, hf⟩ := ab_guard hf
      refine ab_iald (pc2 := 45) hq22 (T21 q22 hq22) (ab_in_vp b23) dX12_lines_44 rfl ?_
      refine ab_iadd (pc2 := 46) dX12_lines_45 rfl ?_
      obtain ⟨q24, hq24, hf⟩ := ab_bind hf
      obtain ⟨b25, hf⟩ := ab_guard hf
      refine ab_iald (pc2 := 47) hq24 (T20 q24 hq24) (ab_in_vp b25) dX12_lines_46 rfl ?_
      obtain ⟨q26, hq26, hf⟩ := ab_bind hf
      obtain ⟨b27, hf⟩ := ab_guard hf
      obtain ⟨h28, eh28, hf⟩ := ab_let_x hf
      refine ab_iast (pc2 := 48) hq26 (T19 q26 hq26) (ab_in_vp b27) dX12_lines_47 rfl ?_
      refine ab_topH eh28 ?_
      refine ab_iinc (pc2 := 51) (v := _ + 1) (lo2 := [some (va_rf _), some (.int _), none, none, some (.int _), some (.int _), some (.int _)]) dX12_lines_48 rfl rfl rfl (by decide) rfl ?_
      refine ab_goto (tgt := 17) dX12_lines_51 (by decide) ?_
      exact ab_weak (ih _ _ _ _ _ hf) (ab_leS (ab_leS (ab_leN (ab_leN (ab_leS (ab_leS (ab_leS ab_le0)))))))
set_option maxHeartbeats 4000000 in
set_option maxRecDepth 100000 in
theorem x_X12_lines {d : Nat} {self : Nat → Int32 → Int32 → Int32 → Int32 → ab_HP → Option ab_HP} {t0 : Nat} {i1 : Int32} {i2 : Int32} {i3 : Int32} {i4 : Int32} {h : ab_HP} {r : ab_HP} (hself : ∀ (t : Nat) (a1 : Int32) (a2 : Int32) (a3 : Int32) (a4 : Int32) (h w : ab_HP), (ab_shp t).1 = 5 → self t a1 a2 a3 a4 h = some w → ab_MET mX12_lines d 0 0 [va_rf (some t), .int a1, .int a2, .int a3, .int a4] h (ab_Pv w)) (ht0 : (ab_shp t0).1 = 5) (hf : f_X12_lines self t0 i1 i2 i3 i4 h = some r) : ab_T mX12_lines (d + 8) 0 0 0 0 0 [some (va_rf (some t0)), some (.int i1), some (.int i2), some (.int i3), some (.int i4), none, none] [] h (ab_Pv r) := by
  unfold f_X12_lines at hf
  refine ab_aload_n (x := _) (pc2 := 1) dX12_lines_0 rfl rfl ?_
  refine ab_getR (pc2 := 4) rfl ht0 fa_X12_25 dX12_lines_1 rfl (fun T1 => ?_)
  refine ab_iload_n (pc2 := 5) dX12_lines_4 rfl rfl ?_
  obtain ⟨q2, hq2, hf⟩ := ab_bind hf
  obtain ⟨b3, hf⟩ := ab_guard hf
  refine ab_iald (pc2 := 6) hq2 (T1 q2 hq2) (ab_in_vp b3) dX12_lines_5 rfl ?_
  refine ab_istore (pc2 := 8) (lo2 := [some (va_rf _), some (.int _), some (.int _), some (.int _), some (.int _), some (.int _), none]) dX12_lines_6 rfl (by decide) rfl ?_
  refine ab_iload_n (pc2 := 9) dX12_lines_8 rfl rfl ?_
  refine ab_iload (pc2 := 11) dX12_lines_9 rfl rfl ?_
  refine ab_icmp_ne (tgt := 138) (pc2 := 14) dX12_lines_11 (by decide) rfl hf (fun c4 hf => ?_) (fun c4 hf => ?_)
  · refine ab_iconst (pc2 := 139) (v := 0) dX12_lines_138 rfl ab_k_iconst_0 ?_
    refine ab_istore (pc2 := 141) (lo2 := [some (va_rf _), some (.int _), some (.int _), some (.int _), some (.int _), some (.int _), some (.int _)]) dX12_lines_139 rfl (by decide) rfl ?_
    exact ab_weak (x_X12_lines_l141 hself ht0 _ _ _ _ _ _ _ _ hf) (ab_leS (ab_leS (ab_leS (ab_leS (ab_leS (ab_leS (ab_leS ab_le0)))))))
  · refine ab_iconst (pc2 := 15) (v := 0) dX12_lines_14 rfl ab_k_iconst_0 ?_
    refine ab_istore (pc2 := 17) (lo2 := [some (va_rf _), some (.int _), some (.int _), some (.int _), some (.int _), some (.int _), some (.int _)]) dX12_lines_15 rfl (by decide) rfl ?_
    exact ab_weak (x_X12_lines_l17 hself ht0 _ _ _ _ _ _ hf) (ab_leS (ab_leS (ab_leN (ab_leN (ab_leS (ab_leS (ab_leS ab_le0)))))))
set_option maxHeartbeats 4000000 in
set_option maxRecDepth 100000 in
theorem m_X12_lines {d : Nat} {self : Nat → Int32 → Int32 → Int32 → Int32 → ab_HP → Option ab_HP} {t0 : Nat} {i1 : Int32} {i2 : Int32} {i3 : Int32} {i4 : Int32} {h : ab_HP} {r : ab_HP} (hself : ∀ (t : Nat) (a1 : Int32) (a2 : Int32) (a3 : Int32) (a4 : Int32) (h w : ab_HP), (ab_shp t).1 = 5 → self t a1 a2 a3 a4 h = some w → ab_MET mX12_lines d 0 0 [va_rf (some t), .int a1, .int a2, .int a3, .int a4] h (ab_Pv w)) (ht0 : (ab_shp t0).1 = 5) (hf : f_X12_lines self t0 i1 i2 i3 i4 h = some r) : ab_MET mX12_lines (d + 8) 0 0 [va_rf (some t0), .int i1, .int i2, .int i3, .int i4] h (ab_Pv r) := ab_met (by decide +kernel) (by decide +kernel) (Nat.le_of_ble_eq_true rfl) rfl (x_X12_lines hself ht0 hf)
set_option maxHeartbeats 4000000 in
set_option maxRecDepth 100000 in
theorem m_X12_lines_rec (n : Nat) {d : Nat} : ∀ {t0 : Nat} {i1 : Int32} {i2 : Int32} {i3 : Int32} {i4 : Int32} {h w : ab_HP}, (ab_shp t0).1 = 5 → f_X12_lines_rec n t0 i1 i2 i3 i4 h = some w → ab_MET mX12_lines (d + n * 8) 0 0 [va_rf (some t0), .int i1, .int i2, .int i3, .int i4] h (ab_Pv w) := by
  induction n with
  | zero => intro t0 i1 i2 i3 i4 h w ht hf; cases hf
  | succ n ih =>
    intro t0 i1 i2 i3 i4 h w ht hf
    rw [show d + (n + 1) * 8 = d + n * 8 + 8 by omega]
    exact m_X12_lines (d := d + n * 8) (fun _ _ _ _ _ _ _ g1 g2 => ih g1 g2) ht hf
set_option maxHeartbeats 4000000 in
set_option maxRecDepth 100000 in
theorem x_X12_free_b57 {d : Nat} {t0 : Nat} {i1 : Int32} {i2 : Int32} {i3 : Int32} {i4 : Int32} {h : ab_HP} {r : (Int32 × ab_HP)} (ht0 : (ab_shp t0).1 = 5) (hf : f_X12_free_b57 t0 i1 i2 i3 i4 h = some r) : ab_T mX12_free (d + 57) 0 0 0 0 57 [some (va_rf (some t0)), some (.int i1), some (.int i2), some (.int i3), some (.int i4)] [] h (ab_Pi r.1 r.2) := by
  unfold f_X12_free_b57 at hf
  refine ab_iload (pc2 := 59) dX12_free_57 rfl rfl ?_
  refine ab_if_eq (tgt := 65) (pc2 := 62) dX12_free_59 (by decide) rfl hf (fun c16 hf => ?_) (fun c16 hf => ?_)
  · refine ab_aload_n (x := _) (pc2 := 66) dX12_free_65 rfl rfl ?_
    refine ab_iload_n (pc2 := 67) dX12_free_66 rfl rfl ?_
    refine ab_iconst (pc2 := 68) (v := 0) dX12_free_67 rfl ab_k_iconst_0 ?_
    obtain ⟨w17, ew17, hf⟩ := ab_bind hf
    refine ab_callV (pc2 := 71) (st := []) rfl ht0 (by decide) (m_X12_lays (d := (d + 55)) ht0 ew17) mf_X12_lays tw_228 tw_227 ts_X12_lays (Or.inl (by decide +kernel)) dX12_free_68 rfl (by omega) (Nat.le_refl _) (Nat.le_refl _) rfl (Nat.le_of_ble_eq_true rfl) (ab_kPv ?_)
    refine ab_aload_n (x := _) (pc2 := 72) dX12_free_71 rfl rfl ?_
    refine ab_bipush (pc2 := 74) (v := (-4)) dX12_free_72 rfl ab_k_bipush_m4 ?_
    obtain ⟨h18, eh18, hf⟩ := ab_let_x hf
    refine ab_putI (pc2 := 77) rfl ht0 fa_X12_246 (Or.inl rfl) (fun z => by cases z) dX12_free_74 rfl ?_
    refine ab_topH eh18 ?_
    refine ab_aload_n (x := _) (pc2 := 78) dX12_free_77 rfl rfl ?_
    refine ab_iload_n (pc2 := 79) dX12_free_78 rfl rfl ?_
    refine ab_iconst (pc2 := 80) (v := 0) dX12_free_79 rfl ab_k_iconst_0 ?_
    refine ab_iconst (pc2 := 81) (v := 0) dX12_free_80 rfl ab_k_iconst_0 ?_
    refine ab_iload_n (pc2 := 82) dX12_free_81 rfl rfl ?_
    obtain ⟨w19, ew19, hf⟩ := ab_bind hf
    refine ab_callV (pc2 := 85) (st := []) rfl ht0 (by decide) (m_X12_lines_rec 7 (d := (d + 0)) ht0 ew19) mf_X12_lines tw_264 tw_263 ts_X12_lines (Or.inl (by decide +kernel)) dX12_free_82 rfl (by omega) (Nat.le_refl _) (Nat.le_refl _) rfl (Nat.le_of_ble_eq_true rfl) (ab_kPv ?_)
    refine ab_aload_n (x := _) (pc2 := 86) dX12_free_85 rfl rfl ?_
    refine ab_getI (pc2 := 89) rfl ht0 fa_X12_246 (by decide) dX12_free_86 rfl ?_
    refine ab_if_ge (tgt := 97) (pc2 := 92) dX12_free_89 (by decide) rfl hf (fun c20 hf => ?_) (fun c20 hf => ?_)
    · refine ab_iload_n (pc2 := 98) dX12_free_97 rfl rfl ?_
      refine ab_if_ne (tgt := 108) (pc2 := 101) dX12_free_98 (by decide) rfl hf (fun c21 hf => ?_) (fun c21 hf => ?_)
      · refine ab_aload_n (x := _) (pc2 := 109) dX12_free_108 rfl rfl ?_
        refine ab_getI (pc2 := 112) rfl ht0 fa_X12_246 (by decide) dX12_free_109 rfl ?_
        cases Option.some.inj hf
        exact ab_retI dX12_free_112 (Or.inl rfl) (Nat.le_refl _) (Nat.le_refl _) ⟨rfl, rfl⟩
      · refine ab_aload_n (x := _) (pc2 := 102) dX12_free_101 rfl rfl ?_
        refine ab_getI (pc2 := 105) rfl ht0 fa_X12_249 (by decide) dX12_free_102 rfl ?_
        refine ab_goto (tgt := 112) dX12_free_105 (by decide) ?_
        cases Option.some.inj hf
        exact ab_retI dX12_free_112 (Or.inl rfl) (Nat.le_refl _) (Nat.le_refl _) ⟨rfl, rfl⟩
    · refine ab_bipush (pc2 := 94) (v := (-4)) dX12_free_92 rfl ab_k_bipush_m4 ?_
      refine ab_goto (tgt := 112) dX12_free_94 (by decide) ?_
      cases Option.some.inj hf
      exact ab_retI dX12_free_112 (Or.inl rfl) (Nat.le_refl _) (Nat.le_refl _) ⟨rfl, rfl⟩
  · refine ab_iload (pc2 := 64) dX12_free_62 rfl rfl ?_
    cases Option.some.inj hf
    exact ab_retI dX12_free_64 (Or.inl rfl) (Nat.le_refl _) (Nat.le_refl _) ⟨rfl, rfl⟩
set_option maxHeartbeats 4000000 in
set_option maxRecDepth 100000 in
theorem x_X12_free {d : Nat} {t0 : Nat} {i1 : Int32} {i2 : Int32} {i3 : Int32} {h : ab_HP} {r : (Int32 × ab_HP)} (ht0 : (ab_shp t0).1 = 5) (hf : f_X12_free t0 i1 i2 i3 h = some r) : ab_T mX12_free (d + 57) 0 0 0 0 0 [some (va_rf (some t0)), some (.int i1), some (.int i2), some (.int i3), none] [] h (ab_Pi r.1 r.2) := by
  unfold f_X12_free at hf
  refine ab_iload_n (pc2 := 1) dX12_free_0 rfl rfl ?_
  obtain ⟨w1, ew1, hf⟩ := ab_bind hf
  refine ab_callS (pc2 := 4) (st := []) (m_X12_isShelf (d := (d + 55)) ew1) mf_X12_isShelf tw_103 tw_104 dX12_free_1 rfl (by omega) (Nat.le_refl _) (Nat.le_refl _) rfl (Nat.le_of_ble_eq_true rfl) (ab_kPb fun z2 => ?_)
  refine ab_if_eq (tgt := 29) (pc2 := 7) dX12_free_4 (by decide) rfl hf (fun c3 hf => ?_) (fun c3 hf => ?_)
  · refine ab_iconst (pc2 := 30) (v := (-1)) dX12_free_29 rfl ab_k_iconst_m1 ?_
    cases Option.some.inj hf
    exact ab_retI dX12_free_30 (Or.inl rfl) (Nat.le_refl _) (Nat.le_refl _) ⟨rfl, rfl⟩
  · refine ab_iload_n (pc2 := 8) dX12_free_7 rfl rfl ?_
    refine ab_i2l (pc2 := 9) dX12_free_8 rfl ?_
    refine ab_lconst (pc2 := 10) (v := 0) dX12_free_9 rfl rfl ?_
    refine ab_ldc2 (pc2 := 13) (v := 1023) dX12_free_10 rfl tw_248 ?_
    obtain ⟨w4, ew4, hf⟩ := ab_bind hf
    refine ab_callS (pc2 := 16) (st := []) (m_X12_isIn (d := (d + 56)) ew4) mf_X12_isIn tw_101 tw_102 dX12_free_13 rfl (by omega) (Nat.le_refl _) (Nat.le_refl _) rfl (Nat.le_of_ble_eq_true rfl) (ab_kPb fun z5 => ?_)
    refine ab_if_eq (tgt := 29) (pc2 := 19) dX12_free_16 (by decide) rfl hf (fun c6 hf => ?_) (fun c6 hf => ?_)
    · refine ab_iconst (pc2 := 30) (v := (-1)) dX12_free_29 rfl ab_k_iconst_m1 ?_
      cases Option.some.inj hf
      exact ab_retI dX12_free_30 (Or.inl rfl) (Nat.le_refl _) (Nat.le_refl _) ⟨rfl, rfl⟩
    · refine ab_iload_n (pc2 := 20) dX12_free_19 rfl rfl ?_
      refine ab_i2l (pc2 := 21) dX12_free_20 rfl ?_
      refine ab_lconst (pc2 := 22) (v := 0) dX12_free_21 rfl rfl ?_
      refine ab_lconst (pc2 := 23) (v := 1) dX12_free_22 rfl rfl ?_
      obtain ⟨w7, ew7, hf⟩ := ab_bind hf
      refine ab_callS (pc2 := 26) (st := []) (m_X12_isIn (d := (d + 56)) ew7) mf_X12_isIn tw_101 tw_102 dX12_free_23 rfl (by omega) (Nat.le_refl _) (Nat.le_refl _) rfl (Nat.le_of_ble_eq_true rfl) (ab_kPb fun z8 => ?_)
      refine ab_if_ne (tgt := 31) (pc2 := 29) dX12_free_26 (by decide) rfl hf (fun c9 hf => ?_) (fun c9 hf => ?_)
      · refine ab_aload_n (x := _) (pc2 := 32) dX12_free_31 rfl rfl ?_
        refine ab_iload_n (pc2 := 33) dX12_free_32 rfl rfl ?_
        obtain ⟨w10, ew10, hf⟩ := ab_bind hf
        refine ab_callV (pc2 := 36) (st := []) rfl ht0 (by decide) (m_X12_wrongList (d := (d + 53)) ht0 ew10) mf_X12_wrongList tw_226 tw_225 ts_X12_wrongList (Or.inl (by decide +kernel)) dX12_free_33 rfl (by omega) (Nat.le_refl _) (Nat.le_refl _) rfl (Nat.le_of_ble_eq_true rfl) (ab_kPi ?_)
        refine ab_istore (pc2 := 38) (lo2 := [some (va_rf _), some (.int _), some (.int _), some (.int _), some (.int _)]) dX12_free_36 rfl (by decide) rfl ?_
        refine ab_iload (pc2 := 40) dX12_free_38 rfl rfl ?_
        refine ab_if_ne (tgt := 57) (pc2 := 43) dX12_free_40 (by decide) rfl hf (fun c11 hf => ?_) (fun c11 hf => ?_)
        · exact ab_weak (x_X12_free_b57 ht0 hf) (ab_leS (ab_leS (ab_leS (ab_leS (ab_leS ab_le0)))))
        · refine ab_aload_n (x := _) (pc2 := 44) dX12_free_43 rfl rfl ?_
          refine ab_getR (pc2 := 47) rfl ht0 fa_X12_25 dX12_free_44 rfl (fun T12 => ?_)
          refine ab_iload_n (pc2 := 48) dX12_free_47 rfl rfl ?_
          obtain ⟨q13, hq13, hf⟩ := ab_bind hf
          obtain ⟨b14, hf⟩ := ab_guard hf
          refine ab_iald (pc2 := 49) hq13 (T12 q13 hq13) (ab_in_vp b14) dX12_free_48 rfl ?_
          refine ab_iconst (pc2 := 50) (v := 5) dX12_free_49 rfl ab_k_iconst_5 ?_
          refine ab_icmp_le (tgt := 57) (pc2 := 53) dX12_free_50 (by decide) rfl hf (fun c15 hf => ?_) (fun c15 hf => ?_)
          · exact ab_weak (x_X12_free_b57 ht0 hf) (ab_leS (ab_leS (ab_leS (ab_leS (ab_leS ab_le0)))))
          · refine ab_bipush (pc2 := 55) (v := (-13)) dX12_free_53 rfl ab_k_bipush_m13 ?_
            refine ab_istore (pc2 := 57) (lo2 := [some (va_rf _), some (.int _), some (.int _), some (.int _), some (.int _)]) dX12_free_55 rfl (by decide) rfl ?_
            exact ab_weak (x_X12_free_b57 ht0 hf) (ab_leS (ab_leS (ab_leS (ab_leS (ab_leS ab_le0)))))
      · refine ab_iconst (pc2 := 30) (v := (-1)) dX12_free_29 rfl ab_k_iconst_m1 ?_
        cases Option.some.inj hf
        exact ab_retI dX12_free_30 (Or.inl rfl) (Nat.le_refl _) (Nat.le_refl _) ⟨rfl, rfl⟩
set_option maxHeartbeats 4000000 in
set_option maxRecDepth 100000 in
theorem m_X12_free {d : Nat} {t0 : Nat} {i1 : Int32} {i2 : Int32} {i3 : Int32} {h : ab_HP} {r : (Int32 × ab_HP)} (ht0 : (ab_shp t0).1 = 5) (hf : f_X12_free t0 i1 i2 i3 h = some r) : ab_MET mX12_free (d + 57) 0 0 [va_rf (some t0), .int i1, .int i2, .int i3] h (ab_Pi r.1 r.2) := ab_met (by decide +kernel) (by decide +kernel) (Nat.le_of_ble_eq_true rfl) rfl (x_X12_free ht0 hf)
set_option maxHeartbeats 4000000 in
set_option maxRecDepth 100000 in
theorem x_X12_worthOf_l5 {d : Nat} {t0 : Nat} {r : Int64} (ht0 : (ab_shp t0).1 = 5) : ∀ (n : Nat) (i1 : Int32) (i2 : Int64) (i4 : Int32) (h : ab_HP), f_X12_worthOf_l5 t0 n i1 i2 i4 h = some r → ab_T mX12_worthOf (d + 0) 0 0 0 0 5 [some (va_rf (some t0)), some (.int i1), some (.long i2), none, some (.int i4)] [] h (ab_Pl r h) := by
  intro n
  induction n with
  | zero =>
    intro i1 i2 i4 h hf
    rw [f_X12_worthOf_l5] at hf
    cases hf
  | succ n ih =>
    intro i1 i2 i4 h hf
    rw [f_X12_worthOf_l5] at hf
    refine ab_iload (pc2 := 7) dX12_worthOf_5 rfl rfl ?_
    refine ab_bipush (pc2 := 9) (v := 10) dX12_worthOf_7 rfl ab_k_bipush_10 ?_
    refine ab_icmp_ge (tgt := 51) (pc2 := 12) dX12_worthOf_9 (by decide) rfl hf (fun c1 hf => ?_) (fun c1 hf => ?_)
    · refine ab_lload_n (pc2 := 52) dX12_worthOf_51 rfl rfl ?_
      cases Option.some.inj hf
      exact ab_retL dX12_worthOf_52 rfl (Nat.le_refl _) (Nat.le_refl _) ⟨rfl, rfl⟩
    · refine ab_lload_n (pc2 := 13) dX12_worthOf_12 rfl rfl ?_
      refine ab_iload_n (pc2 := 14) dX12_worthOf_13 rfl rfl ?_
      refine ab_iload (pc2 := 16) dX12_worthOf_14 rfl rfl ?_
      refine ab_ishr (pc2 := 17) dX12_worthOf_16 rfl ?_
      refine ab_iconst (pc2 := 18) (v := 1) dX12_worthOf_17 rfl ab_k_iconst_1 ?_
      refine ab_iand (pc2 := 19) dX12_worthOf_18 rfl ?_
      refine ab_iconst (pc2 := 20) (v := 1) dX12_worthOf_19 rfl ab_k_iconst_1 ?_
      refine ab_icmp_ne (tgt := 42) (pc2 := 23) dX12_worthOf_20 (by decide) rfl hf (fun c2 hf => ?_) (fun c2 hf => ?_)
      · refine ab_lconst (pc2 := 43) (v := 0) dX12_worthOf_42 rfl rfl ?_
        refine ab_ladd (pc2 := 44) dX12_worthOf_43 rfl ?_
        refine ab_lstore_n (pc2 := 45) (lo2 := [some (va_rf _), some (.int _), some (.long _), none, some (.int _)]) dX12_worthOf_44 rfl (by decide) rfl ?_
        refine ab_iinc (pc2 := 48) (v := _ + 1) (lo2 := [some (va_rf _), some (.int _), some (.long _), none, some (.int _)]) dX12_worthOf_45 rfl rfl rfl (by decide) rfl ?_
        refine ab_goto (tgt := 5) dX12_worthOf_48 (by decide) ?_
        exact ab_weak (ih _ _ _ _ hf) (ab_leS (ab_leS (ab_leS (ab_leN (ab_leS ab_le0)))))
      · refine ab_aload_n (x := _) (pc2 := 24) dX12_worthOf_23 rfl rfl ?_
        refine ab_getR (pc2 := 27) rfl ht0 fa_X12_28 dX12_worthOf_24 rfl (fun T3 => ?_)
        refine ab_bipush (pc2 := 29) (v := 100) dX12_worthOf_27 rfl ab_k_bipush_100 ?_
        refine ab_aload_n (x := _) (pc2 := 30) dX12_worthOf_29 rfl rfl ?_
        refine ab_getI (pc2 := 33) rfl ht0 fa_X12_256 (by decide) dX12_worthOf_30 rfl ?_
        refine ab_imul (pc2 := 34) dX12_worthOf_33 rfl ?_
        refine ab_iload (pc2 := 36) dX12_worthOf_34 rfl rfl ?_
        refine ab_iadd (pc2 := 37) dX12_worthOf_36 rfl ?_
        obtain ⟨q4, hq4, hf⟩ := ab_bind hf
        obtain ⟨b5, hf⟩ := ab_guard hf
        refine ab_iald (pc2 := 38) hq4 (T3 q4 hq4) (ab_in_vp b5) dX12_worthOf_37 rfl ?_
        refine ab_i2l (pc2 := 39) dX12_worthOf_38 rfl ?_
        refine ab_goto (tgt := 43) dX12_worthOf_39 (by decide) ?_
        refine ab_ladd (pc2 := 44) dX12_worthOf_43 rfl ?_
        obtain ⟨v6, ev6, hf⟩ := ab_let_x hf
        refine ab_topJ ev6 ?_
        refine ab_lstore_n (pc2 := 45) (lo2 := [some (va_rf _), some (.int _), some (.long _), none, some (.int _)]) dX12_worthOf_44 rfl (by decide) rfl ?_
        refine ab_iinc (pc2 := 48) (v := _ + 1) (lo2 := [some (va_rf _), some (.int _), some (.long _), none, some (.int _)]) dX12_worthOf_45 rfl rfl rfl (by decide) rfl ?_
        refine ab_goto (tgt := 5) dX12_worthOf_48 (by decide) ?_
        exact ab_weak (ih _ _ _ _ hf) (ab_leS (ab_leS (ab_leS (ab_leN (ab_leS ab_le0)))))
set_option maxHeartbeats 4000000 in
set_option maxRecDepth 100000 in
theorem x_X12_worthOf {d : Nat} {t0 : Nat} {i1 : Int32} {h : ab_HP} {r : Int64} (ht0 : (ab_shp t0).1 = 5) (hf : f_X12_worthOf t0 i1 h = some r) : ab_T mX12_worthOf (d + 0) 0 0 0 0 0 [some (va_rf (some t0)), some (.int i1), none, none, none] [] h (ab_Pl r h) := by
  unfold f_X12_worthOf at hf
  refine ab_lconst (pc2 := 1) (v := 0) dX12_worthOf_0 rfl rfl ?_
  refine ab_lstore_n (pc2 := 2) (lo2 := [some (va_rf _), some (.int _), some (.long _), none, none]) dX12_worthOf_1 rfl (by decide) rfl ?_
  refine ab_iconst (pc2 := 3) (v := 0) dX12_worthOf_2 rfl ab_k_iconst_0 ?_
  refine ab_istore (pc2 := 5) (lo2 := [some (va_rf _), some (.int _), some (.long _), none, some (.int _)]) dX12_worthOf_3 rfl (by decide) rfl ?_
  exact ab_weak (x_X12_worthOf_l5 ht0 _ _ _ _ _ hf) (ab_leS (ab_leS (ab_leS (ab_leN (ab_leS ab_le0)))))
set_option maxHeartbeats 4000000 in
set_option maxRecDepth 100000 in
theorem m_X12_worthOf {d : Nat} {t0 : Nat} {i1 : Int32} {h : ab_HP} {r : Int64} (ht0 : (ab_shp t0).1 = 5) (hf : f_X12_worthOf t0 i1 h = some r) : ab_MET mX12_worthOf (d + 0) 0 0 [va_rf (some t0), .int i1] h (ab_Pl r h) := ab_met (by decide +kernel) (by decide +kernel) (Nat.le_of_ble_eq_true rfl) rfl (x_X12_worthOf ht0 hf)
