set_option maxHeartbeats 4000000 in
set_option maxRecDepth 100000 in
theorem x_X12_tries_b152 {d : Nat} {k3 : Int32 → Int32 → Int32 → Int32 → Int32 → Int32 → Int32 → Int32 → ab_HP → Option ab_HP} {self : Nat → Int32 → Int32 → Int32 → Int32 → ab_HP → Option ab_HP} {t0 : Nat} {i1 : Int32} {i2 : Int32} {i3 : Int32} {i4 : Int32} {i5 : Int32} {i6 : Int32} {i7 : Int32} {i8 : Int32} {i9 : Int32} {i10 : Int64} {h : ab_HP} {r : ab_HP} (hself : ∀ (t : Nat) (a1 : Int32) (a2 : Int32) (a3 : Int32) (a4 : Int32) (h w : ab_HP), (ab_shp t).1 = 5 → self t a1 a2 a3 a4 h = some w → ab_MET mX12_plans d 0 0 [va_rf (some t), .int a1, .int a2, .int a3, .int a4] h (ab_Pv w)) (ht0 : (ab_shp t0).1 = 5) (hk3 : ∀ (i1 : Int32) (i2 : Int32) (i3 : Int32) (i4 : Int32) (i5 : Int32) (i6 : Int32) (i7 : Int32) (i8 : Int32) (h : ab_HP), k3 i1 i2 i3 i4 i5 i6 i7 i8 h = some r → ab_T mX12_tries (d + 7) 0 0 0 0 3 [some (va_rf (some t0)), some (.int i1), some (.int i2), some (.int i3), some (.int i4), some (.int i5), some (.int i6), some (.int i7), some (.int i8), none, none, none] [] h (ab_Pv r)) (hf : f_X12_tries_b152 k3 self t0 i1 i2 i3 i4 i5 i6 i7 i8 i9 i10 h = some r) : ab_T mX12_tries (d + 7) 0 0 0 0 152 [some (va_rf (some t0)), some (.int i1), some (.int i2), some (.int i3), some (.int i4), some (.int i5), some (.int i6), some (.int i7), some (.int i8), some (.int i9), some (.long i10), none] [] h (ab_Pv r) := by
  unfold f_X12_tries_b152 at hf
  refine ab_aload_n (x := _) (pc2 := 153) dX12_tries_152 rfl rfl ?_
  refine ab_iconst (pc2 := 154) (v := 1) dX12_tries_153 rfl ab_k_iconst_1 ?_
  obtain ⟨h48, eh48, hf⟩ := ab_let_x hf
  refine ab_putI (pc2 := 157) rfl ht0 fa_X12_266 (Or.inr ⟨rfl, (Or.inr rfl)⟩) (fun z => by cases z) dX12_tries_154 rfl ?_
  refine ab_topH eh48 ?_
  refine ab_aload_n (x := _) (pc2 := 158) dX12_tries_157 rfl rfl ?_
  refine ab_lload (pc2 := 160) dX12_tries_158 rfl rfl ?_
  obtain ⟨h49, eh49, hf⟩ := ab_let_x hf
  refine ab_putL (pc2 := 163) rfl ht0 fa_X12_270 (fun z => by cases z) dX12_tries_160 rfl ?_
  refine ab_topH eh49 ?_
  refine ab_aload_n (x := _) (pc2 := 164) dX12_tries_163 rfl rfl ?_
  refine ab_iload (pc2 := 166) dX12_tries_164 rfl rfl ?_
  obtain ⟨h50, eh50, hf⟩ := ab_let_x hf
  refine ab_putI (pc2 := 169) rfl ht0 fa_X12_274 (Or.inl rfl) (fun z => by cases z) dX12_tries_166 rfl ?_
  refine ab_topH eh50 ?_
  refine ab_iinc (pc2 := 172) (v := _ + 1) (lo2 := [some (va_rf _), some (.int _), some (.int _), some (.int _), some (.int _), some (.int _), some (.int _), some (.int _), some (.int _), some (.int _), some (.long _), none]) dX12_tries_169 rfl rfl rfl (by decide) rfl ?_
  refine ab_goto (tgt := 3) dX12_tries_172 (by decide) ?_
  exact ab_weak (hk3 _ _ _ _ _ _ _ _ _ hf) (ab_leS (ab_leS (ab_leS (ab_leS (ab_leS (ab_leS (ab_leS (ab_leS (ab_leS (ab_leN (ab_leN (ab_leN ab_le0))))))))))))
set_option maxHeartbeats 4000000 in
set_option maxRecDepth 100000 in
theorem x_X12_tries_l3 {d : Nat} {self : Nat → Int32 → Int32 → Int32 → Int32 → ab_HP → Option ab_HP} {t0 : Nat} {r : ab_HP} (hself : ∀ (t : Nat) (a1 : Int32) (a2 : Int32) (a3 : Int32) (a4 : Int32) (h w : ab_HP), (ab_shp t).1 = 5 → self t a1 a2 a3 a4 h = some w → ab_MET mX12_plans d 0 0 [va_rf (some t), .int a1, .int a2, .int a3, .int a4] h (ab_Pv w)) (ht0 : (ab_shp t0).1 = 5) : ∀ (n : Nat) (i1 : Int32) (i2 : Int32) (i3 : Int32) (i4 : Int32) (i5 : Int32) (i6 : Int32) (i7 : Int32) (i8 : Int32) (h : ab_HP), f_X12_tries_l3 self t0 n i1 i2 i3 i4 i5 i6 i7 i8 h = some r → ab_T mX12_tries (d + 7) 0 0 0 0 3 [some (va_rf (some t0)), some (.int i1), some (.int i2), some (.int i3), some (.int i4), some (.int i5), some (.int i6), some (.int i7), some (.int i8), none, none, none] [] h (ab_Pv r) := by
  intro n
  induction n with
  | zero =>
    intro i1 i2 i3 i4 i5 i6 i7 i8 h hf
    rw [f_X12_tries_l3] at hf
    cases hf
  | succ n ih =>
    intro i1 i2 i3 i4 i5 i6 i7 i8 h hf
    rw [f_X12_tries_l3] at hf
    refine ab_iload (pc2 := 5) dX12_tries_3 rfl rfl ?_
    refine ab_iconst (pc2 := 6) (v := 1) dX12_tries_5 rfl ab_k_iconst_1 ?_
    refine ab_iload_n (pc2 := 7) dX12_tries_6 rfl rfl ?_
    refine ab_ishl (pc2 := 8) dX12_tries_7 rfl ?_
    refine ab_icmp_ge (tgt := 175) (pc2 := 11) dX12_tries_8 (by decide) rfl hf (fun c1 hf => ?_) (fun c1 hf => ?_)
    · cases Option.some.inj hf
      exact ab_retV dX12_tries_175 rfl (Nat.le_refl _) (Nat.le_refl _) ⟨rfl, rfl⟩
    · refine ab_aload_n (x := _) (pc2 := 12) dX12_tries_11 rfl rfl ?_
      refine ab_iload_n (pc2 := 13) dX12_tries_12 rfl rfl ?_
      obtain ⟨h2, eh2, hf⟩ := ab_let_x hf
      refine ab_putI (pc2 := 16) rfl ht0 fa_X12_166 (Or.inl rfl) (fun z => by cases z) dX12_tries_13 rfl ?_
      refine ab_topH eh2 ?_
      refine ab_aload_n (x := _) (pc2 := 17) dX12_tries_16 rfl rfl ?_
      refine ab_getR (pc2 := 20) rfl ht0 fa_X12_40 dX12_tries_17 rfl (fun T3 => ?_)
      refine ab_iconst (pc2 := 21) (v := 0) dX12_tries_20 rfl ab_k_iconst_0 ?_
      refine ab_iload (pc2 := 23) dX12_tries_21 rfl rfl ?_
      obtain ⟨q4, hq4, hf⟩ := ab_bind hf
      obtain ⟨b5, hf⟩ := ab_guard hf
      obtain ⟨h6, eh6, hf⟩ := ab_let_x hf
      refine ab_iast (pc2 := 24) hq4 (T3 q4 hq4) (ab_in_vp b5) dX12_tries_23 rfl ?_
      refine ab_topH eh6 ?_
      refine ab_aload_n (x := _) (pc2 := 25) dX12_tries_24 rfl rfl ?_
      refine ab_getR (pc2 := 28) rfl ht0 fa_X12_40 dX12_tries_25 rfl (fun T7 => ?_)
      refine ab_iconst (pc2 := 29) (v := 1) dX12_tries_28 rfl ab_k_iconst_1 ?_
      refine ab_iload (pc2 := 31) dX12_tries_29 rfl rfl ?_
      obtain ⟨q8, hq8, hf⟩ := ab_bind hf
      obtain ⟨b9, hf⟩ := ab_guard hf
      obtain ⟨h10, eh10, hf⟩ := ab_let_x hf
      refine ab_iast (pc2 := 32) hq8 (T7 q8 hq8) (ab_in_vp b9) dX12_tries_31 rfl ?_
      refine ab_topH eh10 ?_
      refine ab_aload_n (x := _) (pc2 := 33) dX12_tries_32 rfl rfl ?_
      refine ab_iload (pc2 := 35) dX12_tries_33 rfl rfl ?_
      obtain ⟨h11, eh11, hf⟩ := ab_let_x hf
      refine ab_putI (pc2 := 38) rfl ht0 fa_X12_169 (Or.inl rfl) (fun z => by cases z) dX12_tries_35 rfl ?_
      refine ab_topH eh11 ?_
      refine ab_aload_n (x := _) (pc2 := 39) dX12_tries_38 rfl rfl ?_
      refine ab_iload (pc2 := 41) dX12_tries_39 rfl rfl ?_
      obtain ⟨h12, eh12, hf⟩ := ab_let_x hf
      refine ab_putI (pc2 := 44) rfl ht0 fa_X12_175 (Or.inl rfl) (fun z => by cases z) dX12_tries_41 rfl ?_
      refine ab_topH eh12 ?_
      refine ab_aload_n (x := _) (pc2 := 45) dX12_tries_44 rfl rfl ?_
      refine ab_iload (pc2 := 47) dX12_tries_45 rfl rfl ?_
      obtain ⟨h13, eh13, hf⟩ := ab_let_x hf
      refine ab_putI (pc2 := 50) rfl ht0 fa_X12_178 (Or.inl rfl) (fun z => by cases z) dX12_tries_47 rfl ?_
      refine ab_topH eh13 ?_
      refine ab_aload_n (x := _) (pc2 := 51) dX12_tries_50 rfl rfl ?_
      obtain ⟨w14, ew14, hf⟩ := ab_bind hf
      refine ab_callV (pc2 := 54) (st := []) rfl ht0 (by decide) (m_X12_pairOf (d := (d + 0)) ht0 ew14) mf_X12_pairOf tw_230 tw_229 ts_X12_pairOf (Or.inl (by decide +kernel)) dX12_tries_51 rfl (by omega) (Nat.le_refl _) (Nat.le_refl _) rfl (Nat.le_of_ble_eq_true rfl) (ab_kPv ?_)
      refine ab_iload_n (pc2 := 55) dX12_tries_54 rfl rfl ?_
      refine ab_if_lt (tgt := 62) (pc2 := 58) dX12_tries_55 (by decide) rfl hf (fun c15 hf => ?_) (fun c15 hf => ?_)
      · refine ab_bipush (pc2 := 64) (v := 100) dX12_tries_62 rfl ab_k_bipush_100 ?_
        refine ab_iload (pc2 := 66) dX12_tries_64 rfl rfl ?_
        refine ab_imul (pc2 := 67) dX12_tries_66 rfl ?_
        refine ab_bipush (pc2 := 69) (v := 10) dX12_tries_67 rfl ab_k_bipush_10 ?_
        refine ab_iload_n (pc2 := 70) dX12_tries_69 rfl rfl ?_
        refine ab_if_le (tgt := 78) (pc2 := 73) dX12_tries_70 (by decide) rfl hf (fun c16 hf => ?_) (fun c16 hf => ?_)
        · refine ab_bipush (pc2 := 80) (v := 9) dX12_tries_78 rfl ab_k_bipush_9 ?_
          refine ab_imul (pc2 := 81) dX12_tries_80 rfl ?_
          refine ab_iadd (pc2 := 82) dX12_tries_81 rfl ?_
          refine ab_iload_n (pc2 := 83) dX12_tries_82 rfl rfl ?_
          refine ab_iconst (pc2 := 84) (v := 1) dX12_tries_83 rfl ab_k_iconst_1 ?_
          refine ab_icmp_le (tgt := 92) (pc2 := 87) dX12_tries_84 (by decide) rfl hf (fun c17 hf => ?_) (fun c17 hf => ?_)
          · refine ab_bipush (pc2 := 94) (v := 9) dX12_tries_92 rfl ab_k_bipush_9 ?_
            refine ab_iadd (pc2 := 95) dX12_tries_94 rfl ?_
            obtain ⟨v18, ev18, hf⟩ := ab_let_x hf
            refine ab_topI ev18 ?_
            refine ab_istore (pc2 := 97) (lo2 := [some (va_rf _), some (.int _), some (.int _), some (.int _), some (.int _), some (.int _), some (.int _), some (.int _), some (.int _), some (.int _), none, none]) dX12_tries_95 rfl (by decide) rfl ?_
            refine ab_iload_n (pc2 := 98) dX12_tries_97 rfl rfl ?_
            refine ab_iconst (pc2 := 99) (v := 1) dX12_tries_98 rfl ab_k_iconst_1 ?_
            refine ab_icmp_le (tgt := 122) (pc2 := 102) dX12_tries_99 (by decide) rfl hf (fun c19 hf => ?_) (fun c19 hf => ?_)
            · refine ab_aload_n (x := _) (pc2 := 123) dX12_tries_122 rfl rfl ?_
              refine ab_aload_n (x := _) (pc2 := 124) dX12_tries_123 rfl rfl ?_
              refine ab_getI (pc2 := 127) rfl ht0 fa_X12_175 (by decide) dX12_tries_124 rfl ?_
              obtain ⟨w20, ew20, hf⟩ := ab_bind hf
              refine ab_callV (pc2 := 130) (st := []) rfl ht0 (by decide) (m_X12_worthOf (d := (d + 6)) ht0 ew20) mf_X12_worthOf tw_288 tw_287 ts_X12_worthOf (Or.inl (by decide +kernel)) dX12_tries_127 rfl (by omega) (Nat.le_refl _) (Nat.le_refl _) rfl (Nat.le_of_ble_eq_true rfl) (ab_kPl ?_)
              refine ab_lstore (pc2 := 132) (lo2 := [some (va_rf _), some (.int _), some (.int _), some (.int _), some (.int _), some (.int _), some (.int _), some (.int _), some (.int _), some (.int _), some (.long _), none]) dX12_tries_130 rfl (by decide) rfl ?_
              refine ab_aload_n (x := _) (pc2 := 133) dX12_tries_132 rfl rfl ?_
              refine ab_getI (pc2 := 136) rfl ht0 fa_X12_266 (by decide) dX12_tries_133 rfl ?_
              refine ab_if_eq (tgt := 152) (pc2 := 139) dX12_tries_136 (by decide) rfl hf (fun c21 hf => ?_) (fun c21 hf => ?_)
              · exact ab_weak (x_X12_tries_b152 hself ht0 ih hf) (ab_leS (ab_leS (ab_leS (ab_leS (ab_leS (ab_leS (ab_leS (ab_leS (ab_leS (ab_leS (ab_leS (ab_leN ab_le0))))))))))))
              · refine ab_lload (pc2 := 141) dX12_tries_139 rfl rfl ?_
                refine ab_aload_n (x := _) (pc2 := 142) dX12_tries_141 rfl rfl ?_
                refine ab_getL (pc2 := 145) rfl ht0 fa_X12_270 dX12_tries_142 rfl ?_
                refine ab_lcmp (pc2 := 146) dX12_tries_145 rfl ?_
                refine ab_if_gt (tgt := 152) (pc2 := 149) dX12_tries_146 (by decide) rfl hf (fun c22 hf => ?_) (fun c22 hf => ?_)
                · exact ab_weak (x_X12_tries_b152 hself ht0 ih hf) (ab_leS (ab_leS (ab_leS (ab_leS (ab_leS (ab_leS (ab_leS (ab_leS (ab_leS (ab_leS (ab_leS (ab_leN ab_le0))))))))))))
                · refine ab_goto (tgt := 169) dX12_tries_149 (by decide) ?_
                  refine ab_iinc (pc2 := 172) (v := _ + 1) (lo2 := [some (va_rf _), some (.int _), some (.int _), some (.int _), some (.int _), some (.int _), some (.int _), some (.int _), some (.int _), some (.int _), some (.long _), none]) dX12_tries_169 rfl rfl rfl (by decide) rfl ?_
                  refine ab_goto (tgt := 3) dX12_tries_172 (by decide) ?_
                  exact ab_weak (ih _ _ _ _ _ _ _ _ _ hf) (ab_leS (ab_leS (ab_leS (ab_leS (ab_leS (ab_leS (ab_leS (ab_leS (ab_leS (ab_leN (ab_leN (ab_leN ab_le0))))))))))))
            · refine ab_aload_n (x := _) (pc2 := 103) dX12_tries_102 rfl rfl ?_
              refine ab_iload_n (pc2 := 104) dX12_tries_103 rfl rfl ?_
              refine ab_iconst (pc2 := 105) (v := 1) dX12_tries_104 rfl ab_k_iconst_1 ?_
              refine ab_isub (pc2 := 106) dX12_tries_105 rfl ?_
              refine ab_iload (pc2 := 108) dX12_tries_106 rfl rfl ?_
              refine ab_aload_n (x := _) (pc2 := 109) dX12_tries_108 rfl rfl ?_
              refine ab_getI (pc2 := 112) rfl ht0 fa_X12_175 (by decide) dX12_tries_109 rfl ?_
              refine ab_aload_n (x := _) (pc2 := 113) dX12_tries_112 rfl rfl ?_
              refine ab_getI (pc2 := 116) rfl ht0 fa_X12_178 (by decide) dX12_tries_113 rfl ?_
              obtain ⟨w23, ew23, hf⟩ := ab_bind hf
              refine ab_callV (pc2 := 119) (st := []) rfl ht0 (by decide) (hself _ _ _ _ _ _ _ ht0 ew23) mf_X12_plans tw_290 tw_289 ts_X12_plans (Or.inl (by decide +kernel)) dX12_tries_116 rfl (by omega) (Nat.le_refl _) (Nat.le_refl _) rfl (Nat.le_of_ble_eq_true rfl) (ab_kPv ?_)
              refine ab_goto (tgt := 169) dX12_tries_119 (by decide) ?_
              refine ab_iinc (pc2 := 172) (v := _ + 1) (lo2 := [some (va_rf _), some (.int _), some (.int _), some (.int _), some (.int _), some (.int _), some (.int _), some (.int _), some (.int _), some (.int _), none, none]) dX12_tries_169 rfl rfl rfl (by decide) rfl ?_
              refine ab_goto (tgt := 3) dX12_tries_172 (by decide) ?_
              exact ab_weak (ih _ _ _ _ _ _ _ _ _ hf) (ab_leS (ab_leS (ab_leS (ab_leS (ab_leS (ab_leS (ab_leS (ab_leS (ab_leS (ab_leN (ab_leN (ab_leN ab_le0))))))))))))
          · refine ab_iload (pc2 := 89) dX12_tries_87 rfl rfl ?_
            refine ab_goto (tgt := 94) dX12_tries_89 (by decide) ?_
            refine ab_iadd (pc2 := 95) dX12_tries_94 rfl ?_
            obtain ⟨v24, ev24, hf⟩ := ab_let_x hf
            refine ab_topI ev24 ?_
            refine ab_istore (pc2 := 97) (lo2 := [some (va_rf _), some (.int _), some (.int _), some (.int _), some (.int _), some (.int _), some (.int _), some (.int _), some (.int _), some (.int _), none, none]) dX12_tries_95 rfl (by decide) rfl ?_
            refine ab_iload_n (pc2 := 98) dX12_tries_97 rfl rfl ?_
            refine ab_iconst (pc2 := 99) (v := 1) dX12_tries_98 rfl ab_k_iconst_1 ?_
            refine ab_icmp_le (tgt := 122) (pc2 := 102) dX12_tries_99 (by decide) rfl hf (fun c25 hf => ?_) (fun c25 hf => ?_)
            · refine ab_aload_n (x := _) (pc2 := 123) dX12_tries_122 rfl rfl ?_
              refine ab_aload_n (x := _) (pc2 := 124) dX12_tries_123 rfl rfl ?_
              refine ab_getI (pc2 := 127) rfl ht0 fa_X12_175 (by decide) dX12_tries_124 rfl ?_
              obtain ⟨w26, ew26, hf⟩ := ab_bind hf
              refine ab_callV (pc2 := 130) (st := []) rfl ht0 (by decide) (m_X12_worthOf (d := (d + 6)) ht0 ew26) mf_X12_worthOf tw_288 tw_287 ts_X12_worthOf (Or.inl (by decide +kernel)) dX12_tries_127 rfl (by omega) (Nat.le_refl _) (Nat.le_refl _) rfl (Nat.le_of_ble_eq_true rfl) (ab_kPl ?_)
              refine ab_lstore (pc2 := 132) (lo2 := [some (va_rf _), some (.int _), some (.int _), some (.int _), some (.int _), some (.int _), some (.int _), some (.int _), some (.int _), some (.int _), some (.long _), none]) dX12_tries_130 rfl (by decide) rfl ?_
              refine ab_aload_n (x := _) (pc2 := 133) dX12_tries_132 rfl rfl ?_
              refine ab_getI (pc2 := 136) rfl ht0 fa_X12_266 (by decide) dX12_tries_133 rfl ?_
              refine ab_if_eq (tgt := 152) (pc2 := 139) dX12_tries_136 (by decide) rfl hf (fun c27 hf => ?_) (fun c27 hf => ?_)
              · exact ab_weak (x_X12_tries_b152 hself ht0 ih hf) (ab_leS (ab_leS (ab_leS (ab_leS (ab_leS (ab_leS (ab_leS (ab_leS (ab_leS (ab_leS (ab_leS (ab_leN ab_le0))))))))))))
              · refine ab_lload (pc2 := 141) dX12_tries_139 rfl rfl ?_
                refine ab_aload_n (x := _) (pc2 := 142) dX12_tries_141 rfl rfl ?_
                refine ab_getL (pc2 := 145) rfl ht0 fa_X12_270 dX12_tries_142 rfl ?_
                refine ab_lcmp (pc2 := 146) dX12_tries_145 rfl ?_
                refine ab_if_gt (tgt := 152) (pc2 := 149) dX12_tries_146 (by decide) rfl hf (fun c28 hf => ?_) (fun c28 hf => ?_)
                · exact ab_weak (x_X12_tries_b152 hself ht0 ih hf) (ab_leS (ab_leS (ab_leS (ab_leS (ab_leS (ab_leS (ab_leS (ab_leS (ab_leS (ab_leS (ab_leS (ab_leN ab_le0))))))))))))
                · refine ab_goto (tgt := 169) dX12_tries_149 (by decide) ?_
                  refine ab_iinc (pc2 := 172) (v := _ + 1) (lo2 := [some (va_rf _), some (.int _), some (.int _), some (.int _), some (.int _), some (.int _), some (.int _), some (.int _), some (.int _), some (.int _), some (.long _), none]) dX12_tries_169 rfl rfl rfl (by decide) rfl ?_
                  refine ab_goto (tgt := 3) dX12_tries_172 (by decide) ?_
                  exact ab_weak (ih _ _ _ _ _ _ _ _ _ hf) (ab_leS (ab_leS (ab_leS (ab_leS (ab_leS (ab_leS (ab_leS (ab_leS (ab_leS (ab_leN (ab_leN (ab_leN ab_le0))))))))))))
            · refine ab_aload_n (x := _) (pc2 := 103) dX12_tries_102 rfl rfl ?_
              refine ab_iload_n (pc2 := 104) dX12_tries_103 rfl rfl ?_
              refine ab_iconst (pc2 := 105) (v := 1) dX12_tries_104 rfl ab_k_iconst_1 ?_
              refine ab_isub (pc2 := 106) dX12_tries_105 rfl ?_
              refine ab_iload (pc2 := 108) dX12_tries_106 rfl rfl ?_
              refine ab_aload_n (x := _) (pc2 := 109) dX12_tries_108 rfl rfl ?_
              refine ab_getI (pc2 := 112) rfl ht0 fa_X12_175 (by decide) dX12_tries_109 rfl ?_
              refine ab_aload_n (x := _) (pc2 := 113) dX12_tries_112 rfl rfl ?_
              refine ab_getI (pc2 := 116) rfl ht0 fa_X12_178 (by decide) dX12_tries_113 rfl ?_
              obtain ⟨w29, ew29, hf⟩ := ab_bind hf
              refine ab_callV (pc2 := 119) (st := []) rfl ht0 (by decide) (hself _ _ _ _ _ _ _ ht0 ew29) mf_X12_plans tw_290 tw_289 ts_X12_plans (Or.inl (by decide +kernel)) dX12_tries_116 rfl (by omega) (Nat.le_refl _) (Nat.le_refl _) rfl (Nat.le_of_ble_eq_true rfl) (ab_kPv ?_)
              refine ab_goto (tgt := 169) dX12_tries_119 (by decide) ?_
              refine ab_iinc (pc2 := 172) (v := _ + 1) (lo2 := [some (va_rf _), some (.int _), some (.int _), some (.int _), some (.int _), some (.int _), some (.int _), some (.int _), some (.int _), some (.int _), none, none]) dX12_tries_169 rfl rfl rfl (by decide) rfl ?_
              refine ab_goto (tgt := 3) dX12_tries_172 (by decide) ?_
              exact ab_weak (ih _ _ _ _ _ _ _ _ _ hf) (ab_leS (ab_leS (ab_leS (ab_leS (ab_leS (ab_leS (ab_leS (ab_leS (ab_leS (ab_leN (ab_leN (ab_leN ab_le0))))))))))))
        · refine ab_iload (pc2 := 75) dX12_tries_73 rfl rfl ?_
          refine ab_goto (tgt := 80) dX12_tries_75 (by decide) ?_
          refine ab_imul (pc2 := 81) dX12_tries_80 rfl ?_
          refine ab_iadd (pc2 := 82) dX12_tries_81 rfl ?_
          refine ab_iload_n (pc2 := 83) dX12_tries_82 rfl rfl ?_
          refine ab_iconst (pc2 := 84) (v := 1) dX12_tries_83 rfl ab_k_iconst_1 ?_
          refine ab_icmp_le (tgt := 92) (pc2 := 87) dX12_tries_84 (by decide) rfl hf (fun c30 hf => ?_) (fun c30 hf => ?_)
          · refine ab_bipush (pc2 := 94) (v := 9) dX12_tries_92 rfl ab_k_bipush_9 ?_
            refine ab_iadd (pc2 := 95) dX12_tries_94 rfl ?_
            obtain ⟨v31, ev31, hf⟩ := ab_let_x hf
            refine ab_topI ev31 ?_
            refine ab_istore (pc2 := 97) (lo2 := [some (va_rf _), some (.int _), some (.int _), some (.int _), some (.int _), some (.int _), some (.int _), some (.int _), some (.int _), some (.int _), none, none]) dX12_tries_95 rfl (by decide) rfl ?_
            refine ab_iload_n (pc2 := 98) dX12_tries_97 rfl rfl ?_
            refine ab_iconst (pc2 := 99) (v := 1) dX12_tries_98 rfl ab_k_iconst_1 ?_
            refine ab_icmp_le (tgt := 122) (pc2 := 102) dX12_tries_99 (by decide) rfl hf (fun c32 hf => ?_) (fun c32 hf => ?_)
            · refine ab_aload_n (x := _) (pc2 := 123) dX12_tries_122 rfl rfl ?_
              refine ab_aload_n (x := _) (pc2 := 124) dX12_tries_123 rfl rfl ?_
              refine ab_getI (pc2 := 127) rfl ht0 fa_X12_175 (by decide) dX12_tries_124 rfl ?_
              obtain ⟨w33, ew33, hf⟩ := ab_bind hf
              refine ab_callV (pc2 := 130) (st := []) rfl ht0 (by decide) (m_X12_worthOf (d := (d + 6)) ht0 ew33) mf_X12_worthOf tw_288 tw_287 ts_X12_worthOf (Or.inl (by decide +kernel)) dX12_tries_127 rfl (by omega) (Nat.le_refl _) (Nat.le_refl _) rfl (Nat.le_of_ble_eq_true rfl) (ab_kPl ?_)
              refine ab_lstore (pc2 := 132) (lo2 := [some (va_rf _), some (.int _), some (.int _), some (.int _), some (.int _), some (.int _), some (.int _), some (.int _), some (.int _), some (.int _), some (.long _), none]) dX12_tries_130 rfl (by decide) rfl ?_
              refine ab_aload_n (x := _) (pc2 := 133) dX12_tries_132 rfl rfl ?_
              refine ab_getI (pc2 := 136) rfl ht0 fa_X12_266 (by decide) dX12_tries_133 rfl ?_
              refine ab_if_eq (tgt := 152) (pc2 := 139) dX12_tries_136 (by decide) rfl hf (fun c34 hf => ?_) (fun c34 hf => ?_)
              · exact ab_weak (x_X12_tries_b152 hself ht0 ih hf) (ab_leS (ab_leS (ab_leS (ab_leS (ab_leS (ab_leS (ab_leS (ab_leS (ab_leS (ab_leS (ab_leS (ab_leN ab_le0))))))))))))
              · refine ab_lload (pc2 := 141) dX12_tries_139 rfl rfl ?_
                refine ab_aload_n (x := _) (pc2 := 142) dX12_tries_141 rfl rfl ?_
                refine ab_getL (pc2 := 145) rfl ht0 fa_X12_270 dX12_tries_142 rfl ?_
                refine ab_lcmp (pc2 := 146) dX12_tries_145 rfl ?_
                refine ab_if_gt (tgt := 152) (pc2 := 149) dX12_tries_146 (by decide) rfl hf (fun c35 hf => ?_) (fun c35 hf => ?_)
                · exact ab_weak (x_X12_tries_b152 hself ht0 ih hf) (ab_leS (ab_leS (ab_leS (ab_leS (ab_leS (ab_leS (ab_leS (ab_leS (ab_leS (ab_leS (ab_leS (ab_leN ab_le0))))))))))))
                · refine ab_goto (tgt := 169) dX12_tries_149 (by decide) ?_
                  refine ab_iinc (pc2 := 172) (v := _ + 1) (lo2 := [some (va_rf _), some (.int _), some (.int _), some (.int _), some (.int _), some (.int _), some (.int _), some (.int _), some (.int _), some (.int _), some (.long _), none]) dX12_tries_169 rfl rfl rfl (by decide) rfl ?_
                  refine ab_goto (tgt := 3) dX12_tries_172 (by decide) ?_
                  exact ab_weak (ih _ _ _ _ _ _ _ _ _ hf) (ab_leS (ab_leS (ab_leS (ab_leS (ab_leS (ab_leS (ab_leS (ab_leS (ab_leS (ab_leN (ab_leN (ab_leN ab_le0))))))))))))
            · refine ab_aload_n (x := _) (pc2 := 103) dX12_tries_102 rfl rfl ?_
              refine ab_iload_n (pc2 := 104) dX12_tries_103 rfl rfl ?_
              refine ab_iconst (pc2 := 105) (v := 1) dX12_tries_104 rfl ab_k_iconst_1 ?_
              refine ab_isub (pc2 := 106) dX12_tries_105 rfl ?_
              refine ab_iload (pc2 := 108) dX12_tries_106 rfl rfl ?_
              refine ab_aload_n (x := _) (pc2 := 109) dX12_tries_108 rfl rfl ?_
              refine ab_getI (pc2 := 112) rfl ht0 fa_X12_175 (by decide) dX12_tries_109 rfl ?_
              refine ab_aload_n (x := _) (pc2 := 113) dX12_tries_112 rfl rfl ?_
              refine ab_getI (pc2 := 116) rfl ht0 fa_X12_178 (by decide) dX12_tries_113 rfl ?_
              obtain ⟨w36, ew36, hf⟩ := ab_bind hf
              refine ab_callV (pc2 := 119) (st := []) rfl ht0 (by decide) (hself _ _ _ _ _ _ _ ht0 ew36) mf_X12_plans tw_290 tw_289 ts_X12_plans (Or.inl (by decide +kernel)) dX12_tries_116 rfl (by omega) (Nat.le_refl _) (Nat.le_refl _) rfl (Nat.le_of_ble_eq_true rfl) (ab_kPv ?_)
              refine ab_goto (tgt := 169) dX12_tries_119 (by decide) ?_
              refine ab_iinc (pc2 := 172) (v := _ + 1) (lo2 := [some (va_rf _), some (.int _), some (.int _), some (.int _), some (.int _), some (.int _), some (.int _), some (.int _), some (.int _), some (.int _), none, none]) dX12_tries_169 rfl rfl rfl (by decide) rfl ?_
              refine ab_goto (tgt := 3) dX12_tries_172 (by decide) ?_
              exact ab_weak (ih _ _ _ _ _ _ _ _ _ hf) (ab_leS (ab_leS (ab_leS (ab_leS (ab_leS (ab_leS (ab_leS (ab_leS (ab_leS (ab_leN (ab_leN (ab_leN ab_le0))))))))))))
          · refine ab_iload (pc2 := 89) dX12_tries_87 rfl rfl ?_
            refine ab_goto (tgt := 94) dX12_tries_89 (by decide) ?_
            refine ab_iadd (pc2 := 95) dX12_tries_94 rfl ?_
            obtain ⟨v37, ev37, hf⟩ := ab_let_x hf
            refine ab_topI ev37 ?_
            refine ab_istore (pc2 := 97) (lo2 := [some (va_rf _), some (.int _), some (.int _), some (.int _), some (.int _), some (.int _), some (.int _), some (.int _), some (.int _), some (.int _), none, none]) dX12_tries_95 rfl (by decide) rfl ?_
            refine ab_iload_n (pc2 := 98) dX12_tries_97 rfl rfl ?_
            refine ab_iconst (pc2 := 99) (v := 1) dX12_tries_98 rfl ab_k_iconst_1 ?_
            refine ab_icmp_le (tgt := 122) (pc2 := 102) dX12_tries_99 (by decide) rfl hf (fun c38 hf => ?_) (fun c38 hf => ?_)
            · refine ab_aload_n (x := _) (pc2 := 123) dX12_tries_122 rfl rfl ?_
              refine ab_aload_n (x := _) (pc2 := 124) dX12_tries_123 rfl rfl ?_
              refine ab_getI (pc2 := 127) rfl ht0 fa_X12_175 (by decide) dX12_tries_124 rfl ?_
              obtain ⟨w39, ew39, hf⟩ := ab_bind hf
              refine ab_callV (pc2 := 130) (st := []) rfl ht0 (by decide) (m_X12_worthOf (d := (d + 6)) ht0 ew39) mf_X12_worthOf tw_288 tw_287 ts_X12_worthOf (Or.inl (by decide +kernel)) dX12_tries_127 rfl (by omega) (Nat.le_refl _) (Nat.le_refl _) rfl (Nat.le_of_ble_eq_true rfl) (ab_kPl ?_)
              refine ab_lstore (pc2 := 132) (lo2 := [some (va_rf _), some (.int _), some (.int _), some (.int _), some (.int _), some (.int _), some (.int _), some (.int _), some (.int _), some (.int _), some (.long _), none]) dX12_tries_130 rfl (by decide) rfl ?_
              refine ab_aload_n (x := _) (pc2 := 133) dX12_tries_132 rfl rfl ?_
              refine ab_getI (pc2 := 136) rfl ht0 fa_X12_266 (by decide) dX12_tries_133 rfl ?_
              refine ab_if_eq (tgt := 152) (pc2 := 139) dX12_tries_136 (by decide) rfl hf (fun c40 hf => ?_) (fun c40 hf => ?_)
              · exact ab_weak (x_X12_tries_b152 hself ht0 ih hf) (ab_leS (ab_leS (ab_leS (ab_leS (ab_leS (ab_leS (ab_leS (ab_leS (ab_leS (ab_leS (ab_leS (ab_leN ab_le0))))))))))))
              · refine ab_lload (pc2 := 141) dX12_tries_139 rfl rfl ?_
                refine ab_aload_n (x := _) (pc2 := 142) dX12_tries_141 rfl rfl ?_
                refine ab_getL (pc2 := 145) rfl ht0 fa_X12_270 dX12_tries_142 rfl ?_
                refine ab_lcmp (pc2 := 146) dX12_tries_145 rfl ?_
                refine ab_if_gt (tgt := 152) (pc2 := 149) dX12_tries_146 (by decide) rfl hf (fun c41 hf => ?_) (fun c41 hf => ?_)
                · exact ab_weak (x_X12_tries_b152 hself ht0 ih hf) (ab_leS (ab_leS (ab_leS (ab_leS (ab_leS (ab_leS (ab_leS (ab_leS (ab_leS (ab_leS (ab_leS (ab_leN ab_le0))))))))))))
                · refine ab_goto (tgt := 169) dX12_tries_149 (by decide) ?_
                  refine ab_iinc (pc2 := 172) (v := _ + 1) (lo2 := [some (va_rf _), some (.int _), some (.int _), some (.int _), some (.int _), some (.int _), some (.int _), some (.int _), some (.int _), some (.int _), some (.long _), none]) dX12_tries_169 rfl rfl rfl (by decide) rfl ?_
                  refine ab_goto (tgt := 3) dX12_tries_172 (by decide) ?_
                  exact ab_weak (ih _ _ _ _ _ _ _ _ _ hf) (ab_leS (ab_leS (ab_leS (ab_leS (ab_leS (ab_leS (ab_leS (ab_leS (ab_leS (ab_leN (ab_leN (ab_leN ab_le0))))))))))))
            · refine ab_aload_n (x := _) (pc2 := 103) dX12_tries_102 rfl rfl ?_
              refine ab_iload_n (pc2 := 104) dX12_tries_103 rfl rfl ?_
              refine ab_iconst (pc2 := 105) (v := 1) dX12_tries_104 rfl ab_k_iconst_1 ?_
              refine ab_isub (pc2 := 106) dX12_tries_105 rfl ?_
              refine ab_iload (pc2 := 108) dX12_tries_106 rfl rfl ?_
              refine ab_aload_n (x := _) (pc2 := 109) dX12_tries_108 rfl rfl ?_
              refine ab_getI (pc2 := 112) rfl ht0 fa_X12_175 (by decide) dX12_tries_109 rfl ?_
              refine ab_aload_n (x := _) (pc2 := 113) dX12_tries_112 rfl rfl ?_
              refine ab_getI (pc2 := 116) rfl ht0 fa_X12_178 (by decide) dX12_tries_113 rfl ?_
              obtain ⟨w42, ew42, hf⟩ := ab_bind hf
              refine ab_callV (pc2 := 119) (st := []) rfl ht0 (by decide) (hself _ _ _ _ _ _ _ ht0 ew42) mf_X12_plans tw_290 tw_289 ts_X12_plans (Or.inl (by decide +kernel)) dX12_tries_116 rfl (by omega) (Nat.le_refl _) (Nat.le_refl _) rfl (Nat.le_of_ble_eq_true rfl) (ab_kPv ?_)
              refine ab_goto (tgt := 169) dX12_tries_119 (by decide) ?_
              refine ab_iinc (pc2 := 172) (v := _ + 1) (lo2 := [some (va_rf _), some (.int _), some (.int _), some (.int _), some (.int _), some (.int _), some (.int _), some (.int _), some (.int _), some (.int _), none, none]) dX12_tries_169 rfl rfl rfl (by decide) rfl ?_
              refine ab_goto (tgt := 3) dX12_tries_172 (by decide) ?_
              exact ab_weak (ih _ _ _ _ _ _ _ _ _ hf) (ab_leS (ab_leS (ab_leS (ab_leS (ab_leS (ab_leS (ab_leS (ab_leS (ab_leS (ab_leN (ab_leN (ab_leN ab_le0))))))))))))
      · refine ab_iload_n (pc2 := 59) dX12_tries_58 rfl rfl ?_
        refine ab_goto (tgt := 95) dX12_tries_59 (by decide) ?_
        refine ab_istore (pc2 := 97) (lo2 := [some (va_rf _), some (.int _), some (.int _), some (.int _), some (.int _), some (.int _), some (.int _), some (.int _), some (.int _), some (.int _), none, none]) dX12_tries_95 rfl (by decide) rfl ?_
        refine ab_iload_n (pc2 := 98) dX12_tries_97 rfl rfl ?_
        refine ab_iconst (pc2 := 99) (v := 1) dX12_tries_98 rfl ab_k_iconst_1 ?_
        refine ab_icmp_le (tgt := 122) (pc2 := 102) dX12_tries_99 (by decide) rfl hf (fun c43 hf => ?_) (fun c43 hf => ?_)
        · refine ab_aload_n (x := _) (pc2 := 123) dX12_tries_122 rfl rfl ?_
          refine ab_aload_n (x := _) (pc2 := 124) dX12_tries_123 rfl rfl ?_
          refine ab_getI (pc2 := 127) rfl ht0 fa_X12_175 (by decide) dX12_tries_124 rfl ?_
          obtain ⟨w44, ew44, hf⟩ := ab_bind hf
          refine ab_callV (pc2 := 130) (st := []) rfl ht0 (by decide) (m_X12_worthOf (d := (d + 6)) ht0 ew44) mf_X12_worthOf tw_288 tw_287 ts_X12_worthOf (Or.inl (by decide +kernel)) dX12_tries_127 rfl (by omega) (Nat.le_refl _) (Nat.le_refl _) rfl (Nat.le_of_ble_eq_true rfl) (ab_kPl ?_)
          refine ab_lstore (pc2 := 132) (lo2 := [some (va_rf _), some (.int _), some (.int _), some (.int _), some (.int _), some (.int _), some (.int _), some (.int _), some (.int _), some (.int _), some (.long _), none]) dX12_tries_130 rfl (by decide) rfl ?_
          refine ab_aload_n (x := _) (pc2 := 133) dX12_tries_132 rfl rfl ?_
          refine ab_getI (pc2 := 136) rfl ht0 fa_X12_266 (by decide) dX12_tries_133 rfl ?_
          refine ab_if_eq (tgt := 152) (pc2 := 139) dX12_tries_136 (by decide) rfl hf (fun c45 hf => ?_) (fun c45 hf => ?_)
          · exact ab_weak (x_X12_tries_b152 hself ht0 ih hf) (ab_leS (ab_leS (ab_leS (ab_leS (ab_leS (ab_leS (ab_leS (ab_leS (ab_leS (ab_leS (ab_leS (ab_leN ab_le0))))))))))))
          · refine ab_lload (pc2 := 141) dX12_tries_139 rfl rfl ?_
            refine ab_aload_n (x := _) (pc2 := 142) dX12_tries_141 rfl rfl ?_
            refine ab_getL (pc2 := 145) rfl ht0 fa_X12_270 dX12_tries_142 rfl ?_
            refine ab_lcmp (pc2 := 146) dX12_tries_145 rfl ?_
            refine ab_if_gt (tgt := 152) (pc2 := 149) dX12_tries_146 (by decide) rfl hf (fun c46 hf => ?_) (fun c46 hf => ?_)
            · exact ab_weak (x_X12_tries_b152 hself ht0 ih hf) (ab_leS (ab_leS (ab_leS (ab_leS (ab_leS (ab_leS (ab_leS (ab_leS (ab_leS (ab_leS (ab_leS (ab_leN ab_le0))))))))))))
            · refine ab_goto (tgt := 169) dX12_tries_149 (by decide) ?_
              refine ab_iinc (pc2 := 172) (v := _ + 1) (lo2 := [some (va_rf _), some (.int _), some (.int _), some (.int _), some (.int _), some (.int _), some (.int _), some (.int _), some (.int _), some (.int _), some (.long _), none]) dX12_tries_169 rfl rfl rfl (by decide) rfl ?_
              refine ab_goto (tgt := 3) dX12_tries_172 (by decide) ?_
              exact ab_weak (ih _ _ _ _ _ _ _ _ _ hf) (ab_leS (ab_leS (ab_leS (ab_leS (ab_leS (ab_leS (ab_leS (ab_leS (ab_leS (ab_leN (ab_leN (ab_leN ab_le0))))))))))))
        · refine ab_aload_n (x := _) (pc2 := 103) dX12_tries_102 rfl rfl ?_
          refine ab_iload_n (pc2 := 104) dX12_tries_103 rfl rfl ?_
          refine ab_iconst (pc2 := 105) (v := 1) dX12_tries_104 rfl ab_k_iconst_1 ?_
          refine ab_isub (pc2 := 106) dX12_tries_105 rfl ?_
          refine ab_iload (pc2 := 108) dX12_tries_106 rfl rfl ?_
          refine ab_aload_n (x := _) (pc2 := 109) dX12_tries_108 rfl rfl ?_
          refine ab_getI (pc2 := 112) rfl ht0 fa_X12_175 (by decide) dX12_tries_109 rfl ?_
          refine ab_aload_n (x := _) (pc2 := 113) dX12_tries_112 rfl rfl ?_
          refine ab_getI (pc2 := 116) rfl ht0 fa_X12_178 (by decide) dX12_tries_113 rfl ?_
          obtain ⟨w47, ew47, hf⟩ := ab_bind hf
          refine ab_callV (pc2 := 119) (st := []) rfl ht0 (by decide) (hself _ _ _ _ _ _ _ ht0 ew47) mf_X12_plans tw_290 tw_289 ts_X12_plans (Or.inl (by decide +kernel)) dX12_tries_116 rfl (by omega) (Nat.le_refl _) (Nat.le_refl _) rfl (Nat.le_of_ble_eq_true rfl) (ab_kPv ?_)
          refine ab_goto (tgt := 169) dX12_tries_119 (by decide) ?_
          refine ab_iinc (pc2 := 172) (v := _ + 1) (lo2 := [some (va_rf _), some (.int _), some (.int _), some (.int _), some (.int _), some (.int _), some (.int _), some (.int _), some (.int _), some (.int _), none, none]) dX12_tries_169 rfl rfl rfl (by decide) rfl ?_
          refine ab_goto (tgt := 3) dX12_tries_172 (by decide) ?_
          exact ab_weak (ih _ _ _ _ _ _ _ _ _ hf) (ab_leS (ab_leS (ab_leS (ab_leS (ab_leS (ab_leS (ab_leS (ab_leS (ab_leS (ab_leN (ab_leN (ab_leN ab_le0))))))))))))
set_option maxHeartbeats 4000000 in
set_option maxRecDepth 100000 in
theorem x_X12_tries {d : Nat} {self : Nat → Int32 → Int32 → Int32 → Int32 → ab_HP → Option ab_HP} {t0 : Nat} {i1 : Int32} {i2 : Int32} {i3 : Int32} {i4 : Int32} {i5 : Int32} {i6 : Int32} {i7 : Int32} {h : ab_HP} {r : ab_HP} (hself : ∀ (t : Nat) (a1 : Int32) (a2 : Int32) (a3 : Int32) (a4 : Int32) (h w : ab_HP), (ab_shp t).1 = 5 → self t a1 a2 a3 a4 h = some w → ab_MET mX12_plans d 0 0 [va_rf (some t), .int a1, .int a2, .int a3, .int a4] h (ab_Pv w)) (ht0 : (ab_shp t0).1 = 5) (hf : f_X12_tries self t0 i1 i2 i3 i4 i5 i6 i7 h = some r) : ab_T mX12_tries (d + 7) 0 0 0 0 0 [some (va_rf (some t0)), some (.int i1), some (.int i2), some (.int i3), some (.int i4), some (.int i5), some (.int i6), some (.int i7), none, none, none, none] [] h (ab_Pv r) := by
  unfold f_X12_tries at hf
  refine ab_iconst (pc2 := 1) (v := 0) dX12_tries_0 rfl ab_k_iconst_0 ?_
  refine ab_istore (pc2 := 3) (lo2 := [some (va_rf _), some (.int _), some (.int _), some (.int _), some (.int _), some (.int _), some (.int _), some (.int _), some (.int _), none, none, none]) dX12_tries_1 rfl (by decide) rfl ?_
  exact ab_weak (x_X12_tries_l3 hself ht0 _ _ _ _ _ _ _ _ _ _ hf) (ab_leS (ab_leS (ab_leS (ab_leS (ab_leS (ab_leS (ab_leS (ab_leS (ab_leS (ab_leN (ab_leN (ab_leN ab_le0))))))))))))
set_option maxHeartbeats 4000000 in
set_option maxRecDepth 100000 in
theorem m_X12_tries {d : Nat} {self : Nat → Int32 → Int32 → Int32 → Int32 → ab_HP → Option ab_HP} {t0 : Nat} {i1 : Int32} {i2 : Int32} {i3 : Int32} {i4 : Int32} {i5 : Int32} {i6 : Int32} {i7 : Int32} {h : ab_HP} {r : ab_HP} (hself : ∀ (t : Nat) (a1 : Int32) (a2 : Int32) (a3 : Int32) (a4 : Int32) (h w : ab_HP), (ab_shp t).1 = 5 → self t a1 a2 a3 a4 h = some w → ab_MET mX12_plans d 0 0 [va_rf (some t), .int a1, .int a2, .int a3, .int a4] h (ab_Pv w)) (ht0 : (ab_shp t0).1 = 5) (hf : f_X12_tries self t0 i1 i2 i3 i4 i5 i6 i7 h = some r) : ab_MET mX12_tries (d + 7) 0 0 [va_rf (some t0), .int i1, .int i2, .int i3, .int i4, .int i5, .int i6, .int i7] h (ab_Pv r) := ab_met (by decide +kernel) (by decide +kernel) (Nat.le_of_ble_eq_true rfl) rfl (x_X12_tries hself ht0 hf)
set_option maxHeartbeats 4000000 in
set_option maxRecDepth 100000 in
theorem x_X12_plans_l64 {d : Nat} {k49 : Int32 → Int32 → Int32 → Int32 → Int32 → ab_HP → Option ab_HP} {self : Nat → Int32 → Int32 → Int32 → Int32 → ab_HP → Option ab_HP} {t0 : Nat} {r : ab_HP} (hself : ∀ (t : Nat) (a1 : Int32) (a2 : Int32) (a3 : Int32) (a4 : Int32) (h w : ab_HP), (ab_shp t).1 = 5 → self t a1 a2 a3 a4 h = some w → ab_MET mX12_plans d 0 0 [va_rf (some t), .int a1, .int a2, .int a3, .int a4] h (ab_Pv w)) (ht0 : (ab_shp t0).1 = 5) (hk49 : ∀ (i1 : Int32) (i2 : Int32) (i3 : Int32) (i4 : Int32) (i5 : Int32) (h : ab_HP), k49 i1 i2 i3 i4 i5 h = some r → ab_T mX12_plans (d + 8) 0 0 0 0 49 [some (va_rf (some t0)), some (.int i1), some (.int i2), some (.int i3), some (.int i4), some (.int i5), none] [] h (ab_Pv r)) : ∀ (n : Nat) (i1 : Int32) (i2 : Int32) (i3 : Int32) (i4 : Int32) (i5 : Int32) (i6 : Int32) (h : ab_HP), f_X12_plans_l64 k49 self t0 n i1 i2 i3 i4 i5 i6 h = some r → ab_T mX12_plans (d + 8) 0 0 0 0 64 [some (va_rf (some t0)), some (.int i1), some (.int i2), some (.int i3), some (.int i4), some (.int i5), some (.int i6)] [] h (ab_Pv r) := by
  intro n
  induction n with
  | zero =>
    intro i1 i2 i3 i4 i5 i6 h hf
    rw [f_X12_plans_l64] at hf
    cases hf
  | succ n ih =>
    intro i1 i2 i3 i4 i5 i6 h hf
    rw [f_X12_plans_l64] at hf
    refine ab_iload (pc2 := 66) dX12_plans_64 rfl rfl ?_
    refine ab_aload_n (x := _) (pc2 := 67) dX12_plans_66 rfl rfl ?_
    refine ab_getR (pc2 := 70) rfl ht0 fa_X12_9 dX12_plans_67 rfl (fun T11 => ?_)
    refine ab_bipush (pc2 := 72) (v := 6) dX12_plans_70 rfl ab_k_bipush_6 ?_
    obtain ⟨q12, hq12, hf⟩ := ab_bind hf
    obtain ⟨b13, hf⟩ := ab_guard hf
    refine ab_iald (pc2 := 73) hq12 (T11 q12 hq12) (ab_in_vp b13) dX12_plans_72 rfl ?_
    refine ab_icmp_ge (tgt := 103) (pc2 := 76) dX12_plans_73 (by decide) rfl hf (fun c14 hf => ?_) (fun c14 hf => ?_)
    · refine ab_iinc (pc2 := 106) (v := _ + 1) (lo2 := [some (va_rf _), some (.int _), some (.int _), some (.int _), some (.int _), some (.int _), some (.int _)]) dX12_plans_103 rfl rfl rfl (by decide) rfl ?_
      refine ab_goto (tgt := 49) dX12_plans_106 (by decide) ?_
      exact ab_weak (hk49 _ _ _ _ _ _ hf) (ab_leS (ab_leS (ab_leS (ab_leS (ab_leS (ab_leS (ab_leN ab_le0)))))))
    · refine ab_iload (pc2 := 78) dX12_plans_76 rfl rfl ?_
      refine ab_iload (pc2 := 80) dX12_plans_78 rfl rfl ?_
      refine ab_icmp_eq (tgt := 97) (pc2 := 83) dX12_plans_80 (by decide) rfl hf (fun c15 hf => ?_) (fun c15 hf => ?_)
      · refine ab_iinc (pc2 := 100) (v := _ + 1) (lo2 := [some (va_rf _), some (.int _), some (.int _), some (.int _), some (.int _), some (.int _), some (.int _)]) dX12_plans_97 rfl rfl rfl (by decide) rfl ?_
        refine ab_goto (tgt := 64) dX12_plans_100 (by decide) ?_
        exact ab_weak (ih _ _ _ _ _ _ _ hf) (ab_leS (ab_leS (ab_leS (ab_leS (ab_leS (ab_leS (ab_leS ab_le0)))))))
      · refine ab_aload_n (x := _) (pc2 := 84) dX12_plans_83 rfl rfl ?_
        refine ab_iload_n (pc2 := 85) dX12_plans_84 rfl rfl ?_
        refine ab_iload_n (pc2 := 86) dX12_plans_85 rfl rfl ?_
        refine ab_iconst (pc2 := 87) (v := 2) dX12_plans_86 rfl ab_k_iconst_2 ?_
        refine ab_iload (pc2 := 89) dX12_plans_87 rfl rfl ?_
        refine ab_iload (pc2 := 91) dX12_plans_89 rfl rfl ?_
        refine ab_iload_n (pc2 := 92) dX12_plans_91 rfl rfl ?_
        refine ab_iload (pc2 := 94) dX12_plans_92 rfl rfl ?_
        obtain ⟨w16, ew16, hf⟩ := ab_bind hf
        refine ab_callV (pc2 := 97) (st := []) rfl ht0 (by decide) (m_X12_tries (d := (d + 0)) hself ht0 ew16) mf_X12_tries tw_292 tw_291 ts_X12_tries (Or.inl (by decide +kernel)) dX12_plans_94 rfl (by omega) (Nat.le_refl _) (Nat.le_refl _) rfl (Nat.le_of_ble_eq_true rfl) (ab_kPv ?_)
        refine ab_iinc (pc2 := 100) (v := _ + 1) (lo2 := [some (va_rf _), some (.int _), some (.int _), some (.int _), some (.int _), some (.int _), some (.int _)]) dX12_plans_97 rfl rfl rfl (by decide) rfl ?_
        refine ab_goto (tgt := 64) dX12_plans_100 (by decide) ?_
        exact ab_weak (ih _ _ _ _ _ _ _ hf) (ab_leS (ab_leS (ab_leS (ab_leS (ab_leS (ab_leS (ab_leS ab_le0)))))))
set_option maxHeartbeats 4000000 in
set_option maxRecDepth 100000 in
theorem x_X12_plans_l49 {d : Nat} {self : Nat → Int32 → Int32 → Int32 → Int32 → ab_HP → Option ab_HP} {t0 : Nat} {r : ab_HP} (hself : ∀ (t : Nat) (a1 : Int32) (a2 : Int32) (a3 : Int32) (a4 : Int32) (h w : ab_HP), (ab_shp t).1 = 5 → self t a1 a2 a3 a4 h = some w → ab_MET mX12_plans d 0 0 [va_rf (some t), .int a1, .int a2, .int a3, .int a4] h (ab_Pv w)) (ht0 : (ab_shp t0).1 = 5) : ∀ (n : Nat) (i1 : Int32) (i2 : Int32) (i3 : Int32) (i4 : Int32) (i5 : Int32) (h : ab_HP), f_X12_plans_l49 self t0 n i1 i2 i3 i4 i5 h = some r → ab_T mX12_plans (d + 8) 0 0 0 0 49 [some (va_rf (some t0)), some (.int i1), some (.int i2), some (.int i3), some (.int i4), some (.int i5), none] [] h (ab_Pv r) := by
  intro n
  induction n with
  | zero =>
    intro i1 i2 i3 i4 i5 h hf
    rw [f_X12_plans_l49] at hf
    cases hf
  | succ n ih =>
    intro i1 i2 i3 i4 i5 h hf
    rw [f_X12_plans_l49] at hf
    refine ab_iload (pc2 := 51) dX12_plans_49 rfl rfl ?_
    refine ab_aload_n (x := _) (pc2 := 52) dX12_plans_51 rfl rfl ?_
    refine ab_getR (pc2 := 55) rfl ht0 fa_X12_9 dX12_plans_52 rfl (fun T7 => ?_)
    refine ab_bipush (pc2 := 57) (v := 6) dX12_plans_55 rfl ab_k_bipush_6 ?_
    obtain ⟨q8, hq8, hf⟩ := ab_bind hf
    obtain ⟨b9, hf⟩ := ab_guard hf
    refine ab_iald (pc2 := 58) hq8 (T7 q8 hq8) (ab_in_vp b9) dX12_plans_57 rfl ?_
    refine ab_icmp_ge (tgt := 109) (pc2 := 61) dX12_plans_58 (by decide) rfl hf (fun c10 hf => ?_) (fun c10 hf => ?_)
    · cases Option.some.inj hf
      exact ab_retV dX12_plans_109 rfl (Nat.le_refl _) (Nat.le_refl _) ⟨rfl, rfl⟩
    · refine ab_iconst (pc2 := 62) (v := 0) dX12_plans_61 rfl ab_k_iconst_0 ?_
      refine ab_istore (pc2 := 64) (lo2 := [some (va_rf _), some (.int _), some (.int _), some (.int _), some (.int _), some (.int _), some (.int _)]) dX12_plans_62 rfl (by decide) rfl ?_
      exact ab_weak (x_X12_plans_l64 hself ht0 ih _ _ _ _ _ _ _ _ hf) (ab_leS (ab_leS (ab_leS (ab_leS (ab_leS (ab_leS (ab_leS ab_le0)))))))
set_option maxHeartbeats 4000000 in
set_option maxRecDepth 100000 in
theorem x_X12_plans_l15 {d : Nat} {self : Nat → Int32 → Int32 → Int32 → Int32 → ab_HP → Option ab_HP} {t0 : Nat} {r : ab_HP} (hself : ∀ (t : Nat) (a1 : Int32) (a2 : Int32) (a3 : Int32) (a4 : Int32) (h w : ab_HP), (ab_shp t).1 = 5 → self t a1 a2 a3 a4 h = some w → ab_MET mX12_plans d 0 0 [va_rf (some t), .int a1, .int a2, .int a3, .int a4] h (ab_Pv w)) (ht0 : (ab_shp t0).1 = 5) : ∀ (n : Nat) (i1 : Int32) (i2 : Int32) (i3 : Int32) (i4 : Int32) (i5 : Int32) (h : ab_HP), f_X12_plans_l15 self t0 n i1 i2 i3 i4 i5 h = some r → ab_T mX12_plans (d + 8) 0 0 0 0 15 [some (va_rf (some t0)), some (.int i1), some (.int i2), some (.int i3), some (.int i4), some (.int i5), none] [] h (ab_Pv r) := by
  intro n
  induction n with
  | zero =>
    intro i1 i2 i3 i4 i5 h hf
    rw [f_X12_plans_l15] at hf
    cases hf
  | succ n ih =>
    intro i1 i2 i3 i4 i5 h hf
    rw [f_X12_plans_l15] at hf
    refine ab_iload (pc2 := 17) dX12_plans_15 rfl rfl ?_
    refine ab_aload_n (x := _) (pc2 := 18) dX12_plans_17 rfl rfl ?_
    refine ab_getR (pc2 := 21) rfl ht0 fa_X12_9 dX12_plans_18 rfl (fun T2 => ?_)
    refine ab_bipush (pc2 := 23) (v := 6) dX12_plans_21 rfl ab_k_bipush_6 ?_
    obtain ⟨q3, hq3, hf⟩ := ab_bind hf
    obtain ⟨b4, hf⟩ := ab_guard hf
    refine ab_iald (pc2 := 24) hq3 (T2 q3 hq3) (ab_in_vp b4) dX12_plans_23 rfl ?_
    refine ab_icmp_ge (tgt := 46) (pc2 := 27) dX12_plans_24 (by decide) rfl hf (fun c5 hf => ?_) (fun c5 hf => ?_)
    · refine ab_iconst (pc2 := 47) (v := 0) dX12_plans_46 rfl ab_k_iconst_0 ?_
      refine ab_istore (pc2 := 49) (lo2 := [some (va_rf _), some (.int _), some (.int _), some (.int _), some (.int _), some (.int _), none]) dX12_plans_47 rfl (by decide) rfl ?_
      exact ab_weak (x_X12_plans_l49 hself ht0 _ _ _ _ _ _ _ hf) (ab_leS (ab_leS (ab_leS (ab_leS (ab_leS (ab_leS (ab_leN ab_le0)))))))
    · refine ab_aload_n (x := _) (pc2 := 28) dX12_plans_27 rfl rfl ?_
      refine ab_iload_n (pc2 := 29) dX12_plans_28 rfl rfl ?_
      refine ab_iload_n (pc2 := 30) dX12_plans_29 rfl rfl ?_
      refine ab_iconst (pc2 := 31) (v := 1) dX12_plans_30 rfl ab_k_iconst_1 ?_
      refine ab_iload (pc2 := 33) dX12_plans_31 rfl rfl ?_
      refine ab_iconst (pc2 := 34) (v := 0) dX12_plans_33 rfl ab_k_iconst_0 ?_
      refine ab_iload_n (pc2 := 35) dX12_plans_34 rfl rfl ?_
      refine ab_iload (pc2 := 37) dX12_plans_35 rfl rfl ?_
      obtain ⟨w6, ew6, hf⟩ := ab_bind hf
      refine ab_callV (pc2 := 40) (st := []) rfl ht0 (by decide) (m_X12_tries (d := (d + 0)) hself ht0 ew6) mf_X12_tries tw_292 tw_291 ts_X12_tries (Or.inl (by decide +kernel)) dX12_plans_37 rfl (by omega) (Nat.le_refl _) (Nat.le_refl _) rfl (Nat.le_of_ble_eq_true rfl) (ab_kPv ?_)
      refine ab_iinc (pc2 := 43) (v := _ + 1) (lo2 := [some (va_rf _), some (.int _), some (.int _), some (.int _), some (.int _), some (.int _), none]) dX12_plans_40 rfl rfl rfl (by decide) rfl ?_
      refine ab_goto (tgt := 15) dX12_plans_43 (by decide) ?_
      exact ab_weak (ih _ _ _ _ _ _ hf) (ab_leS (ab_leS (ab_leS (ab_leS (ab_leS (ab_leS (ab_leN ab_le0)))))))
set_option maxHeartbeats 4000000 in
set_option maxRecDepth 100000 in
theorem x_X12_plans {d : Nat} {self : Nat → Int32 → Int32 → Int32 → Int32 → ab_HP → Option ab_HP} {t0 : Nat} {i1 : Int32} {i2 : Int32} {i3 : Int32} {i4 : Int32} {h : ab_HP} {r : ab_HP} (hself : ∀ (t : Nat) (a1 : Int32) (a2 : Int32) (a3 : Int32) (a4 : Int32) (h w : ab_HP), (ab_shp t).1 = 5 → self t a1 a2 a3 a4 h = some w → ab_MET mX12_plans d 0 0 [va_rf (some t), .int a1, .int a2, .int a3, .int a4] h (ab_Pv w)) (ht0 : (ab_shp t0).1 = 5) (hf : f_X12_plans self t0 i1 i2 i3 i4 h = some r) : ab_T mX12_plans (d + 8) 0 0 0 0 0 [some (va_rf (some t0)), some (.int i1), some (.int i2), some (.int i3), some (.int i4), none, none] [] h (ab_Pv r) := by
  unfold f_X12_plans at hf
  refine ab_aload_n (x := _) (pc2 := 1) dX12_plans_0 rfl rfl ?_
  refine ab_iload_n (pc2 := 2) dX12_plans_1 rfl rfl ?_
  refine ab_iload_n (pc2 := 3) dX12_plans_2 rfl rfl ?_
  refine ab_iconst (pc2 := 4) (v := 0) dX12_plans_3 rfl ab_k_iconst_0 ?_
  refine ab_iconst (pc2 := 5) (v := 0) dX12_plans_4 rfl ab_k_iconst_0 ?_
  refine ab_iconst (pc2 := 6) (v := 0) dX12_plans_5 rfl ab_k_iconst_0 ?_
  refine ab_iload_n (pc2 := 7) dX12_plans_6 rfl rfl ?_
  refine ab_iload (pc2 := 9) dX12_plans_7 rfl rfl ?_
  obtain ⟨w1, ew1, hf⟩ := ab_bind hf
  refine ab_callV (pc2 := 12) (st := []) rfl ht0 (by decide) (m_X12_tries (d := (d + 0)) hself ht0 ew1) mf_X12_tries tw_292 tw_291 ts_X12_tries (Or.inl (by decide +kernel)) dX12_plans_9 rfl (by omega) (Nat.le_refl _) (Nat.le_refl _) rfl (Nat.le_of_ble_eq_true rfl) (ab_kPv ?_)
  refine ab_iconst (pc2 := 13) (v := 0) dX12_plans_12 rfl ab_k_iconst_0 ?_
  refine ab_istore (pc2 := 15) (lo2 := [some (va_rf _), some (.int _), some (.int _), some (.int _), some (.int _), some (.int _), none]) dX12_plans_13 rfl (by decide) rfl ?_
  exact ab_weak (x_X12_plans_l15 hself ht0 _ _ _ _ _ _ _ hf) (ab_leS (ab_leS (ab_leS (ab_leS (ab_leS (ab_leS (ab_leN ab_le0)))))))
set_option maxHeartbeats 4000000 in
set_option maxRecDepth 100000 in
theorem m_X12_plans {d : Nat} {self : Nat → Int32 → Int32 → Int32 → Int32 → ab_HP → Option ab_HP} {t0 : Nat} {i1 : Int32} {i2 : Int32} {i3 : Int32} {i4 : Int32} {h : ab_HP} {r : ab_HP} (hself : ∀ (t : Nat) (a1 : Int32) (a2 : Int32) (a3 : Int32) (a4 : Int32) (h w : ab_HP), (ab_shp t).1 = 5 → self t a1 a2 a3 a4 h = some w → ab_MET mX12_plans d 0 0 [va_rf (some t), .int a1, .int a2, .int a3, .int a4] h (ab_Pv w)) (ht0 : (ab_shp t0).1 = 5) (hf : f_X12_plans self t0 i1 i2 i3 i4 h = some r) : ab_MET mX12_plans (d + 8) 0 0 [va_rf (some t0), .int i1, .int i2, .int i3, .int i4] h (ab_Pv r) := ab_met (by decide +kernel) (by decide +kernel) (Nat.le_of_ble_eq_true rfl) rfl (x_X12_plans hself ht0 hf)
set_option maxHeartbeats 4000000 in
set_option maxRecDepth 100000 in
theorem m_X12_plans_rec (n : Nat) {d : Nat} : ∀ {t0 : Nat} {i1 : Int32} {i2 : Int32} {i3 : Int32} {i4 : Int32} {h w : ab_HP}, (ab_shp t0).1 = 5 → f_X12_plans_rec n t0 i1 i2 i3 i4 h = some w → ab_MET mX12_plans (d + n * 8) 0 0 [va_rf (some t0), .int i1, .int i2, .int i3, .int i4] h (ab_Pv w) := by
  induction n with
  | zero => intro t0 i1 i2 i3 i4 h w ht hf; cases hf
  | succ n ih =>
    intro t0 i1 i2 i3 i4 h w ht hf
    rw [show d + (n + 1) * 8 = d + n * 8 + 8 by omega]
    exact m_X12_plans (d := d + n * 8) (fun _ _ _ _ _ _ _ g1 g2 => ih g1 g2) ht hf
set_option maxHeartbeats 4000000 in
set_option maxRecDepth 100000 in
theorem x_X12_plan_l71 {d : Nat} {t0 : Nat} {r : (Int32 × ab_HP)} (ht0 : (ab_shp t0).1 = 5) : ∀ (n : Nat) (i1 : Int32) (i2 : Int32) (i3 : Int32) (i5 : Int32) (h : ab_HP), f_X12_plan_l71 t0 n i1 i2 i3 i5 h = some r → ab_T mX12_plan (d + 25) 0 0 0 0 71 [some (va_rf (some t0)), some (.int i1), some (.int i2), some (.int i3), none, some (.int i5)] [] h (ab_Pi r.1 r.2) := by
  intro n
  induction n with
  | zero =>
    intro i1 i2 i3 i5 h hf
    rw [f_X12_plan_l71] at hf
    cases hf
  | succ n ih =>
    intro i1 i2 i3 i5 h hf
    rw [f_X12_plan_l71] at hf
    refine ab_iload (pc2 := 73) dX12_plan_71 rfl rfl ?_
    refine ab_bipush (pc2 := 75) (v := 10) dX12_plan_73 rfl ab_k_bipush_10 ?_
    refine ab_icmp_ge (tgt := 113) (pc2 := 78) dX12_plan_75 (by decide) rfl hf (fun c16 hf => ?_) (fun c16 hf => ?_)
    · refine ab_aload_n (x := _) (pc2 := 114) dX12_plan_113 rfl rfl ?_
      refine ab_iload_n (pc2 := 115) dX12_plan_114 rfl rfl ?_
      obtain ⟨h17, eh17, hf⟩ := ab_let_x hf
      refine ab_putI (pc2 := 118) rfl ht0 fa_X12_256 (Or.inl rfl) (fun z => by cases z) dX12_plan_115 rfl ?_
      refine ab_topH eh17 ?_
      refine ab_aload_n (x := _) (pc2 := 119) dX12_plan_118 rfl rfl ?_
      refine ab_iconst (pc2 := 120) (v := 0) dX12_plan_119 rfl ab_k_iconst_0 ?_
      obtain ⟨h18, eh18, hf⟩ := ab_let_x hf
      refine ab_putI (pc2 := 123) rfl ht0 fa_X12_266 (Or.inr ⟨rfl, (Or.inl rfl)⟩) (fun z => by cases z) dX12_plan_120 rfl ?_
      refine ab_topH eh18 ?_
      refine ab_aload_n (x := _) (pc2 := 124) dX12_plan_123 rfl rfl ?_
      refine ab_iload_n (pc2 := 125) dX12_plan_124 rfl rfl ?_
      refine ab_bipush (pc2 := 127) (v := (-4)) dX12_plan_125 rfl ab_k_bipush_m4 ?_
      refine ab_aload_n (x := _) (pc2 := 128) dX12_plan_127 rfl rfl ?_
      refine ab_getR (pc2 := 131) rfl ht0 fa_X12_9 dX12_plan_128 rfl (fun T19 => ?_)
      refine ab_iconst (pc2 := 132) (v := 0) dX12_plan_131 rfl ab_k_iconst_0 ?_
      obtain ⟨q20, hq20, hf⟩ := ab_bind hf
      obtain ⟨b21, hf⟩ := ab_guard hf
      refine ab_iald (pc2 := 133) hq20 (T19 q20 hq20) (ab_in_vp b21) dX12_plan_132 rfl ?_
      refine ab_aload_n (x := _) (pc2 := 134) dX12_plan_133 rfl rfl ?_
      refine ab_getR (pc2 := 137) rfl ht0 fa_X12_9 dX12_plan_134 rfl (fun T22 => ?_)
      refine ab_iconst (pc2 := 138) (v := 1) dX12_plan_137 rfl ab_k_iconst_1 ?_
      obtain ⟨q23, hq23, hf⟩ := ab_bind hf
      obtain ⟨b24, hf⟩ := ab_guard hf
      refine ab_iald (pc2 := 139) hq23 (T22 q23 hq23) (ab_in_vp b24) dX12_plan_138 rfl ?_
      obtain ⟨w25, ew25, hf⟩ := ab_bind hf
      refine ab_callV (pc2 := 142) (st := []) rfl ht0 (by decide) (m_X12_plans_rec 3 (d := (d + 0)) ht0 ew25) mf_X12_plans tw_290 tw_289 ts_X12_plans (Or.inl (by decide +kernel)) dX12_plan_139 rfl (by omega) (Nat.le_refl _) (Nat.le_refl _) rfl (Nat.le_of_ble_eq_true rfl) (ab_kPv ?_)
      refine ab_iload_n (pc2 := 143) dX12_plan_142 rfl rfl ?_
      refine ab_if_ne (tgt := 154) (pc2 := 146) dX12_plan_143 (by decide) rfl hf (fun c26 hf => ?_) (fun c26 hf => ?_)
      · refine ab_aload_n (x := _) (pc2 := 155) dX12_plan_154 rfl rfl ?_
        refine ab_getI (pc2 := 158) rfl ht0 fa_X12_274 (by decide) dX12_plan_155 rfl ?_
        cases Option.some.inj hf
        exact ab_retI dX12_plan_158 (Or.inl rfl) (Nat.le_refl _) (Nat.le_refl _) ⟨rfl, rfl⟩
      · refine ab_aload_n (x := _) (pc2 := 147) dX12_plan_146 rfl rfl ?_
        refine ab_getL (pc2 := 150) rfl ht0 fa_X12_270 dX12_plan_147 rfl ?_
        refine ab_l2i (pc2 := 151) dX12_plan_150 rfl ?_
        refine ab_goto (tgt := 158) dX12_plan_151 (by decide) ?_
        cases Option.some.inj hf
        exact ab_retI dX12_plan_158 (Or.inl rfl) (Nat.le_refl _) (Nat.le_refl _) ⟨rfl, rfl⟩
    · refine ab_aload_n (x := _) (pc2 := 79) dX12_plan_78 rfl rfl ?_
      refine ab_getR (pc2 := 82) rfl ht0 fa_X12_28 dX12_plan_79 rfl (fun T27 => ?_)
      refine ab_bipush (pc2 := 84) (v := 100) dX12_plan_82 rfl ab_k_bipush_100 ?_
      refine ab_iload_n (pc2 := 85) dX12_plan_84 rfl rfl ?_
      refine ab_imul (pc2 := 86) dX12_plan_85 rfl ?_
      refine ab_iload (pc2 := 88) dX12_plan_86 rfl rfl ?_
      refine ab_iadd (pc2 := 89) dX12_plan_88 rfl ?_
      obtain ⟨q28, hq28, hf⟩ := ab_bind hf
      obtain ⟨b29, hf⟩ := ab_guard hf
      refine ab_iald (pc2 := 90) hq28 (T27 q28 hq28) (ab_in_vp b29) dX12_plan_89 rfl ?_
      refine ab_i2l (pc2 := 91) dX12_plan_90 rfl ?_
      refine ab_ldc2 (pc2 := 94) (v := (-999)) dX12_plan_91 rfl tw_296 ?_
      refine ab_ldc2 (pc2 := 97) (v := 999) dX12_plan_94 rfl tw_297 ?_
      obtain ⟨w30, ew30, hf⟩ := ab_bind hf
      refine ab_callS (pc2 := 100) (st := []) (m_X12_isIn (d := (d + 24)) ew30) mf_X12_isIn tw_101 tw_102 dX12_plan_97 rfl (by omega) (Nat.le_refl _) (Nat.le_refl _) rfl (Nat.le_of_ble_eq_true rfl) (ab_kPb fun z31 => ?_)
      refine ab_if_ne (tgt := 107) (pc2 := 103) dX12_plan_100 (by decide) rfl hf (fun c32 hf => ?_) (fun c32 hf => ?_)
      · refine ab_iinc (pc2 := 110) (v := _ + 1) (lo2 := [some (va_rf _), some (.int _), some (.int _), some (.int _), none, some (.int _)]) dX12_plan_107 rfl rfl rfl (by decide) rfl ?_
        refine ab_goto (tgt := 71) dX12_plan_110 (by decide) ?_
        exact ab_weak (ih _ _ _ _ _ hf) (ab_leS (ab_leS (ab_leS (ab_leS (ab_leN (ab_leS ab_le0))))))
      · refine ab_ldcw (pc2 := 106) (v := (-1000000013)) dX12_plan_103 rfl tw_294 ?_
        cases Option.some.inj hf
        exact ab_retI dX12_plan_106 (Or.inl rfl) (Nat.le_refl _) (Nat.le_refl _) ⟨rfl, rfl⟩
set_option maxHeartbeats 4000000 in
set_option maxRecDepth 100000 in
theorem x_X12_plan {d : Nat} {t0 : Nat} {i1 : Int32} {i2 : Int32} {i3 : Int32} {h : ab_HP} {r : (Int32 × ab_HP)} (ht0 : (ab_shp t0).1 = 5) (hf : f_X12_plan t0 i1 i2 i3 h = some r) : ab_T mX12_plan (d + 25) 0 0 0 0 0 [some (va_rf (some t0)), some (.int i1), some (.int i2), some (.int i3), none, none] [] h (ab_Pi r.1 r.2) := by
  unfold f_X12_plan at hf
  refine ab_iload_n (pc2 := 1) dX12_plan_0 rfl rfl ?_
  refine ab_i2l (pc2 := 2) dX12_plan_1 rfl ?_
  refine ab_lconst (pc2 := 3) (v := 1) dX12_plan_2 rfl rfl ?_
  refine ab_ldc2 (pc2 := 6) (v := 2) dX12_plan_3 rfl tw_143 ?_
  obtain ⟨w1, ew1, hf⟩ := ab_bind hf
  refine ab_callS (pc2 := 9) (st := []) (m_X12_isIn (d := (d + 24)) ew1) mf_X12_isIn tw_101 tw_102 dX12_plan_6 rfl (by omega) (Nat.le_refl _) (Nat.le_refl _) rfl (Nat.le_of_ble_eq_true rfl) (ab_kPb fun z2 => ?_)
  refine ab_if_eq (tgt := 29) (pc2 := 12) dX12_plan_9 (by decide) rfl hf (fun c3 hf => ?_) (fun c3 hf => ?_)
  · refine ab_ldcw (pc2 := 32) (v := (-1000000001)) dX12_plan_29 rfl tw_293 ?_
    cases Option.some.inj hf
    exact ab_retI dX12_plan_32 (Or.inl rfl) (Nat.le_refl _) (Nat.le_refl _) ⟨rfl, rfl⟩
  · refine ab_iload_n (pc2 := 13) dX12_plan_12 rfl rfl ?_
    obtain ⟨w4, ew4, hf⟩ := ab_bind hf
    refine ab_callS (pc2 := 16) (st := []) (m_X12_isShelf (d := (d + 23)) ew4) mf_X12_isShelf tw_103 tw_104 dX12_plan_13 rfl (by omega) (Nat.le_refl _) (Nat.le_refl _) rfl (Nat.le_of_ble_eq_true rfl) (ab_kPb fun z5 => ?_)
    refine ab_if_eq (tgt := 29) (pc2 := 19) dX12_plan_16 (by decide) rfl hf (fun c6 hf => ?_) (fun c6 hf => ?_)
    · refine ab_ldcw (pc2 := 32) (v := (-1000000001)) dX12_plan_29 rfl tw_293 ?_
      cases Option.some.inj hf
      exact ab_retI dX12_plan_32 (Or.inl rfl) (Nat.le_refl _) (Nat.le_refl _) ⟨rfl, rfl⟩
    · refine ab_iload_n (pc2 := 20) dX12_plan_19 rfl rfl ?_
      refine ab_i2l (pc2 := 21) dX12_plan_20 rfl ?_
      refine ab_lconst (pc2 := 22) (v := 0) dX12_plan_21 rfl rfl ?_
      refine ab_lconst (pc2 := 23) (v := 1) dX12_plan_22 rfl rfl ?_
      obtain ⟨w7, ew7, hf⟩ := ab_bind hf
      refine ab_callS (pc2 := 26) (st := []) (m_X12_isIn (d := (d + 24)) ew7) mf_X12_isIn tw_101 tw_102 dX12_plan_23 rfl (by omega) (Nat.le_refl _) (Nat.le_refl _) rfl (Nat.le_of_ble_eq_true rfl) (ab_kPb fun z8 => ?_)
      refine ab_if_ne (tgt := 33) (pc2 := 29) dX12_plan_26 (by decide) rfl hf (fun c9 hf => ?_) (fun c9 hf => ?_)
      · refine ab_aload_n (x := _) (pc2 := 34) dX12_plan_33 rfl rfl ?_
        refine ab_iload_n (pc2 := 35) dX12_plan_34 rfl rfl ?_
        refine ab_iconst (pc2 := 36) (v := (-1)) dX12_plan_35 rfl ab_k_iconst_m1 ?_
        obtain ⟨w10, ew10, hf⟩ := ab_bind hf
        refine ab_callV (pc2 := 39) (st := []) rfl ht0 (by decide) (m_X12_wrongRow (d := (d + 22)) ht0 ew10) mf_X12_wrongRow tw_122 tw_121 ts_X12_wrongRow (Or.inl (by decide +kernel)) dX12_plan_36 rfl (by omega) (Nat.le_refl _) (Nat.le_refl _) rfl (Nat.le_of_ble_eq_true rfl) (ab_kPi ?_)
        refine ab_istore (pc2 := 41) (lo2 := [some (va_rf _), some (.int _), some (.int _), some (.int _), some (.int _), none]) dX12_plan_39 rfl (by decide) rfl ?_
        refine ab_iload (pc2 := 43) dX12_plan_41 rfl rfl ?_
        refine ab_if_eq (tgt := 53) (pc2 := 46) dX12_plan_43 (by decide) rfl hf (fun c11 hf => ?_) (fun c11 hf => ?_)
        · refine ab_aload_n (x := _) (pc2 := 54) dX12_plan_53 rfl rfl ?_
          refine ab_getR (pc2 := 57) rfl ht0 fa_X12_25 dX12_plan_54 rfl (fun T12 => ?_)
          refine ab_iload_n (pc2 := 58) dX12_plan_57 rfl rfl ?_
          obtain ⟨q13, hq13, hf⟩ := ab_bind hf
          obtain ⟨b14, hf⟩ := ab_guard hf
          refine ab_iald (pc2 := 59) hq13 (T12 q13 hq13) (ab_in_vp b14) dX12_plan_58 rfl ?_
          refine ab_bipush (pc2 := 61) (v := 10) dX12_plan_59 rfl ab_k_bipush_10 ?_
          refine ab_icmp_eq (tgt := 68) (pc2 := 64) dX12_plan_61 (by decide) rfl hf (fun c15 hf => ?_) (fun c15 hf => ?_)
          · refine ab_iconst (pc2 := 69) (v := 0) dX12_plan_68 rfl ab_k_iconst_0 ?_
            refine ab_istore (pc2 := 71) (lo2 := [some (va_rf _), some (.int _), some (.int _), some (.int _), some (.int _), some (.int _)]) dX12_plan_69 rfl (by decide) rfl ?_
            exact ab_weak (x_X12_plan_l71 ht0 _ _ _ _ _ _ hf) (ab_leS (ab_leS (ab_leS (ab_leS (ab_leN (ab_leS ab_le0))))))
          · refine ab_ldcw (pc2 := 67) (v := (-1000000013)) dX12_plan_64 rfl tw_294 ?_
            cases Option.some.inj hf
            exact ab_retI dX12_plan_67 (Or.inl rfl) (Nat.le_refl _) (Nat.le_refl _) ⟨rfl, rfl⟩
        · refine ab_ldcw (pc2 := 49) (v := (-1000000000)) dX12_plan_46 rfl tw_295 ?_
          refine ab_iload (pc2 := 51) dX12_plan_49 rfl rfl ?_
          refine ab_iadd (pc2 := 52) dX12_plan_51 rfl ?_
          cases Option.some.inj hf
          exact ab_retI dX12_plan_52 (Or.inl rfl) (Nat.le_refl _) (Nat.le_refl _) ⟨rfl, rfl⟩
      · refine ab_ldcw (pc2 := 32) (v := (-1000000001)) dX12_plan_29 rfl tw_293 ?_
        cases Option.some.inj hf
        exact ab_retI dX12_plan_32 (Or.inl rfl) (Nat.le_refl _) (Nat.le_refl _) ⟨rfl, rfl⟩
set_option maxHeartbeats 4000000 in
set_option maxRecDepth 100000 in
theorem m_X12_plan {d : Nat} {t0 : Nat} {i1 : Int32} {i2 : Int32} {i3 : Int32} {h : ab_HP} {r : (Int32 × ab_HP)} (ht0 : (ab_shp t0).1 = 5) (hf : f_X12_plan t0 i1 i2 i3 h = some r) : ab_MET mX12_plan (d + 25) 0 0 [va_rf (some t0), .int i1, .int i2, .int i3] h (ab_Pi r.1 r.2) := ab_met (by decide +kernel) (by decide +kernel) (Nat.le_of_ble_eq_true rfl) rfl (x_X12_plan ht0 hf)
