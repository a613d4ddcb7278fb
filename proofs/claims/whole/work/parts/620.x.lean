set_option maxHeartbeats 4000000 in
set_option maxRecDepth 100000 in
theorem x_X12_count_l47 {d : Nat} {t0 : Nat} {r : Int32} (ht0 : (ab_shp t0).1 = 5) : ∀ (n : Nat) (i1 : Int32) (i2 : Int32) (i3 : Int32) (h : ab_HP), f_X12_count_l47 t0 n i1 i2 i3 h = some r → ab_T mX12_count (d + 3) 0 0 0 0 47 [some (va_rf (some t0)), some (.int i1), some (.int i2), some (.int i3)] [] h (ab_Pi r h) := by
  intro n
  induction n with
  | zero =>
    intro i1 i2 i3 h hf
    rw [f_X12_count_l47] at hf
    cases hf
  | succ n ih =>
    intro i1 i2 i3 h hf
    rw [f_X12_count_l47] at hf
    refine ab_iload_n (pc2 := 48) dX12_count_47 rfl rfl ?_
    refine ab_aload_n (x := _) (pc2 := 49) dX12_count_48 rfl rfl ?_
    refine ab_getR (pc2 := 52) rfl ht0 fa_X12_9 dX12_count_49 rfl (fun T13 => ?_)
    refine ab_bipush (pc2 := 54) (v := 6) dX12_count_52 rfl ab_k_bipush_6 ?_
    obtain ⟨q14, hq14, hf⟩ := ab_bind hf
    obtain ⟨b15, hf⟩ := ab_guard hf
    refine ab_iald (pc2 := 55) hq14 (T13 q14 hq14) (ab_in_vp b15) dX12_count_54 rfl ?_
    refine ab_icmp_ge (tgt := 140) (pc2 := 58) dX12_count_55 (by decide) rfl hf (fun c16 hf => ?_) (fun c16 hf => ?_)
    · refine ab_iload_n (pc2 := 141) dX12_count_140 rfl rfl ?_
      cases Option.some.inj hf
      exact ab_retI dX12_count_141 (Or.inl rfl) (Nat.le_refl _) (Nat.le_refl _) ⟨rfl, rfl⟩
    · refine ab_iload_n (pc2 := 59) dX12_count_58 rfl rfl ?_
      refine ab_iload_n (pc2 := 60) dX12_count_59 rfl rfl ?_
      refine ab_iconst (pc2 := 61) (v := 5) dX12_count_60 rfl ab_k_iconst_5 ?_
      refine ab_icmp_ne (tgt := 73) (pc2 := 64) dX12_count_61 (by decide) rfl hf (fun c17 hf => ?_) (fun c17 hf => ?_)
      · refine ab_iload_n (pc2 := 74) dX12_count_73 rfl rfl ?_
        refine ab_iconst (pc2 := 75) (v := 2) dX12_count_74 rfl ab_k_iconst_2 ?_
        refine ab_icmp_ne (tgt := 98) (pc2 := 78) dX12_count_75 (by decide) rfl hf (fun c18 hf => ?_) (fun c18 hf => ?_)
        · refine ab_iload_n (pc2 := 99) dX12_count_98 rfl rfl ?_
          refine ab_iconst (pc2 := 100) (v := 3) dX12_count_99 rfl ab_k_iconst_3 ?_
          refine ab_icmp_ne (tgt := 111) (pc2 := 103) dX12_count_100 (by decide) rfl hf (fun c19 hf => ?_) (fun c19 hf => ?_)
          · refine ab_iload_n (pc2 := 112) dX12_count_111 rfl rfl ?_
            refine ab_iconst (pc2 := 113) (v := 4) dX12_count_112 rfl ab_k_iconst_4 ?_
            refine ab_icmp_ne (tgt := 131) (pc2 := 116) dX12_count_113 (by decide) rfl hf (fun c20 hf => ?_) (fun c20 hf => ?_)
            · refine ab_iconst (pc2 := 132) (v := 0) dX12_count_131 rfl ab_k_iconst_0 ?_
              refine ab_iadd (pc2 := 133) dX12_count_132 rfl ?_
              refine ab_istore_n (pc2 := 134) (lo2 := [some (va_rf _), some (.int _), some (.int _), some (.int _)]) dX12_count_133 rfl (by decide) rfl ?_
              refine ab_iinc (pc2 := 137) (v := _ + 1) (lo2 := [some (va_rf _), some (.int _), some (.int _), some (.int _)]) dX12_count_134 rfl rfl rfl (by decide) rfl ?_
              refine ab_goto (tgt := 47) dX12_count_137 (by decide) ?_
              exact ab_weak (ih _ _ _ _ hf) (ab_leS (ab_leS (ab_leS (ab_leS ab_le0))))
            · refine ab_aload_n (x := _) (pc2 := 117) dX12_count_116 rfl rfl ?_
              refine ab_iload_n (pc2 := 118) dX12_count_117 rfl rfl ?_
              refine ab_iconst (pc2 := 119) (v := 0) dX12_count_118 rfl ab_k_iconst_0 ?_
              obtain ⟨w21, ew21, hf⟩ := ab_bind hf
              refine ab_callV (pc2 := 122) (st := [_]) rfl ht0 (by decide) (m_X12_get (d := (d + 2)) ht0 ew21) mf_X12_get tw_129 tw_128 ts_X12_get (Or.inl (by decide +kernel)) dX12_count_119 rfl (by omega) (Nat.le_refl _) (Nat.le_refl _) rfl (Nat.le_of_ble_eq_true rfl) (ab_kPi ?_)
              refine ab_bipush (pc2 := 124) (v := 6) dX12_count_122 rfl ab_k_bipush_6 ?_
              refine ab_icmp_ne (tgt := 131) (pc2 := 127) dX12_count_124 (by decide) rfl hf (fun c22 hf => ?_) (fun c22 hf => ?_)
              · refine ab_iconst (pc2 := 132) (v := 0) dX12_count_131 rfl ab_k_iconst_0 ?_
                refine ab_iadd (pc2 := 133) dX12_count_132 rfl ?_
                refine ab_istore_n (pc2 := 134) (lo2 := [some (va_rf _), some (.int _), some (.int _), some (.int _)]) dX12_count_133 rfl (by decide) rfl ?_
                refine ab_iinc (pc2 := 137) (v := _ + 1) (lo2 := [some (va_rf _), some (.int _), some (.int _), some (.int _)]) dX12_count_134 rfl rfl rfl (by decide) rfl ?_
                refine ab_goto (tgt := 47) dX12_count_137 (by decide) ?_
                exact ab_weak (ih _ _ _ _ hf) (ab_leS (ab_leS (ab_leS (ab_leS ab_le0))))
              · refine ab_iconst (pc2 := 128) (v := 1) dX12_count_127 rfl ab_k_iconst_1 ?_
                refine ab_goto (tgt := 132) dX12_count_128 (by decide) ?_
                refine ab_iadd (pc2 := 133) dX12_count_132 rfl ?_
                refine ab_istore_n (pc2 := 134) (lo2 := [some (va_rf _), some (.int _), some (.int _), some (.int _)]) dX12_count_133 rfl (by decide) rfl ?_
                refine ab_iinc (pc2 := 137) (v := _ + 1) (lo2 := [some (va_rf _), some (.int _), some (.int _), some (.int _)]) dX12_count_134 rfl rfl rfl (by decide) rfl ?_
                refine ab_goto (tgt := 47) dX12_count_137 (by decide) ?_
                exact ab_weak (ih _ _ _ _ hf) (ab_leS (ab_leS (ab_leS (ab_leS ab_le0))))
          · refine ab_aload_n (x := _) (pc2 := 104) dX12_count_103 rfl rfl ?_
            refine ab_iload_n (pc2 := 105) dX12_count_104 rfl rfl ?_
            obtain ⟨w23, ew23, hf⟩ := ab_bind hf
            refine ab_callV (pc2 := 108) (st := [_]) rfl ht0 (by decide) (m_X12_isKept (d := (d + 1)) ht0 ew23) mf_X12_isKept tw_136 tw_135 ts_X12_isKept (Or.inl (by decide +kernel)) dX12_count_105 rfl (by omega) (Nat.le_refl _) (Nat.le_refl _) rfl (Nat.le_of_ble_eq_true rfl) (ab_kPb fun z24 => ?_)
            refine ab_if_ne (tgt := 127) (pc2 := 111) dX12_count_108 (by decide) rfl hf (fun c25 hf => ?_) (fun c25 hf => ?_)
            · refine ab_iconst (pc2 := 128) (v := 1) dX12_count_127 rfl ab_k_iconst_1 ?_
              refine ab_goto (tgt := 132) dX12_count_128 (by decide) ?_
              refine ab_iadd (pc2 := 133) dX12_count_132 rfl ?_
              refine ab_istore_n (pc2 := 134) (lo2 := [some (va_rf _), some (.int _), some (.int _), some (.int _)]) dX12_count_133 rfl (by decide) rfl ?_
              refine ab_iinc (pc2 := 137) (v := _ + 1) (lo2 := [some (va_rf _), some (.int _), some (.int _), some (.int _)]) dX12_count_134 rfl rfl rfl (by decide) rfl ?_
              refine ab_goto (tgt := 47) dX12_count_137 (by decide) ?_
              exact ab_weak (ih _ _ _ _ hf) (ab_leS (ab_leS (ab_leS (ab_leS ab_le0))))
            · refine ab_iload_n (pc2 := 112) dX12_count_111 rfl rfl ?_
              refine ab_iconst (pc2 := 113) (v := 4) dX12_count_112 rfl ab_k_iconst_4 ?_
              refine ab_icmp_ne (tgt := 131) (pc2 := 116) dX12_count_113 (by decide) rfl hf (fun c26 hf => ?_) (fun c26 hf => ?_)
              · refine ab_iconst (pc2 := 132) (v := 0) dX12_count_131 rfl ab_k_iconst_0 ?_
                refine ab_iadd (pc2 := 133) dX12_count_132 rfl ?_
                refine ab_istore_n (pc2 := 134) (lo2 := [some (va_rf _), some (.int _), some (.int _), some (.int _)]) dX12_count_133 rfl (by decide) rfl ?_
                refine ab_iinc (pc2 := 137) (v := _ + 1) (lo2 := [some (va_rf _), some (.int _), some (.int _), some (.int _)]) dX12_count_134 rfl rfl rfl (by decide) rfl ?_
                refine ab_goto (tgt := 47) dX12_count_137 (by decide) ?_
                exact ab_weak (ih _ _ _ _ hf) (ab_leS (ab_leS (ab_leS (ab_leS ab_le0))))
              · refine ab_aload_n (x := _) (pc2 := 117) dX12_count_116 rfl rfl ?_
                refine ab_iload_n (pc2 := 118) dX12_count_117 rfl rfl ?_
                refine ab_iconst (pc2 := 119) (v := 0) dX12_count_118 rfl ab_k_iconst_0 ?_
                obtain ⟨w27, ew27, hf⟩ := ab_bind hf
                refine ab_callV (pc2 := 122) (st := [_]) rfl ht0 (by decide) (m_X12_get (d := (d + 2)) ht0 ew27) mf_X12_get tw_129 tw_128 ts_X12_get (Or.inl (by decide +kernel)) dX12_count_119 rfl (by omega) (Nat.le_refl _) (Nat.le_refl _) rfl (Nat.le_of_ble_eq_true rfl) (ab_kPi ?_)
                refine ab_bipush (pc2 := 124) (v := 6) dX12_count_122 rfl ab_k_bipush_6 ?_
                refine ab_icmp_ne (tgt := 131) (pc2 := 127) dX12_count_124 (by decide) rfl hf (fun c28 hf => ?_) (fun c28 hf => ?_)
                · refine ab_iconst (pc2 := 132) (v := 0) dX12_count_131 rfl ab_k_iconst_0 ?_
                  refine ab_iadd (pc2 := 133) dX12_count_132 rfl ?_
                  refine ab_istore_n (pc2 := 134) (lo2 := [some (va_rf _), some (.int _), some (.int _), some (.int _)]) dX12_count_133 rfl (by decide) rfl ?_
                  refine ab_iinc (pc2 := 137) (v := _ + 1) (lo2 := [some (va_rf _), some (.int _), some (.int _), some (.int _)]) dX12_count_134 rfl rfl rfl (by decide) rfl ?_
                  refine ab_goto (tgt := 47) dX12_count_137 (by decide) ?_
                  exact ab_weak (ih _ _ _ _ hf) (ab_leS (ab_leS (ab_leS (ab_leS ab_le0))))
                · refine ab_iconst (pc2 := 128) (v := 1) dX12_count_127 rfl ab_k_iconst_1 ?_
                  refine ab_goto (tgt := 132) dX12_count_128 (by decide) ?_
                  refine ab_iadd (pc2 := 133) dX12_count_132 rfl ?_
                  refine ab_istore_n (pc2 := 134) (lo2 := [some (va_rf _), some (.int _), some (.int _), some (.int _)]) dX12_count_133 rfl (by decide) rfl ?_
                  refine ab_iinc (pc2 := 137) (v := _ + 1) (lo2 := [some (va_rf _), some (.int _), some (.int _), some (.int _)]) dX12_count_134 rfl rfl rfl (by decide) rfl ?_
                  refine ab_goto (tgt := 47) dX12_count_137 (by decide) ?_
                  exact ab_weak (ih _ _ _ _ hf) (ab_leS (ab_leS (ab_leS (ab_leS ab_le0))))
        · refine ab_aload_n (x := _) (pc2 := 79) dX12_count_78 rfl rfl ?_
          refine ab_iload_n (pc2 := 80) dX12_count_79 rfl rfl ?_
          refine ab_aload_n (x := _) (pc2 := 81) dX12_count_80 rfl rfl ?_
          refine ab_getR (pc2 := 84) rfl ht0 fa_X12_9 dX12_count_81 rfl (fun T29 => ?_)
          refine ab_iconst (pc2 := 85) (v := 0) dX12_count_84 rfl ab_k_iconst_0 ?_
          obtain ⟨q30, hq30, hf⟩ := ab_bind hf
          obtain ⟨b31, hf⟩ := ab_guard hf
          refine ab_iald (pc2 := 86) hq30 (T29 q30 hq30) (ab_in_vp b31) dX12_count_85 rfl ?_
          refine ab_aload_n (x := _) (pc2 := 87) dX12_count_86 rfl rfl ?_
          refine ab_getR (pc2 := 90) rfl ht0 fa_X12_9 dX12_count_87 rfl (fun T32 => ?_)
          refine ab_iconst (pc2 := 91) (v := 1) dX12_count_90 rfl ab_k_iconst_1 ?_
          obtain ⟨q33, hq33, hf⟩ := ab_bind hf
          obtain ⟨b34, hf⟩ := ab_guard hf
          refine ab_iald (pc2 := 92) hq33 (T32 q33 hq33) (ab_in_vp b34) dX12_count_91 rfl ?_
          obtain ⟨w35, ew35, hf⟩ := ab_bind hf
          refine ab_callV (pc2 := 95) (st := [_]) rfl ht0 (by decide) (m_X12_mayBy (d := (d + 0)) ht0 ew35) mf_X12_mayBy tw_153 tw_152 ts_X12_mayBy (Or.inl (by decide +kernel)) dX12_count_92 rfl (by omega) (Nat.le_refl _) (Nat.le_refl _) rfl (Nat.le_of_ble_eq_true rfl) (ab_kPb fun z36 => ?_)
          refine ab_if_ne (tgt := 127) (pc2 := 98) dX12_count_95 (by decide) rfl hf (fun c37 hf => ?_) (fun c37 hf => ?_)
          · refine ab_iconst (pc2 := 128) (v := 1) dX12_count_127 rfl ab_k_iconst_1 ?_
            refine ab_goto (tgt := 132) dX12_count_128 (by decide) ?_
            refine ab_iadd (pc2 := 133) dX12_count_132 rfl ?_
            refine ab_istore_n (pc2 := 134) (lo2 := [some (va_rf _), some (.int _), some (.int _), some (.int _)]) dX12_count_133 rfl (by decide) rfl ?_
            refine ab_iinc (pc2 := 137) (v := _ + 1) (lo2 := [some (va_rf _), some (.int _), some (.int _), some (.int _)]) dX12_count_134 rfl rfl rfl (by decide) rfl ?_
            refine ab_goto (tgt := 47) dX12_count_137 (by decide) ?_
            exact ab_weak (ih _ _ _ _ hf) (ab_leS (ab_leS (ab_leS (ab_leS ab_le0))))
          · refine ab_iload_n (pc2 := 99) dX12_count_98 rfl rfl ?_
            refine ab_iconst (pc2 := 100) (v := 3) dX12_count_99 rfl ab_k_iconst_3 ?_
            refine ab_icmp_ne (tgt := 111) (pc2 := 103) dX12_count_100 (by decide) rfl hf (fun c38 hf => ?_) (fun c38 hf => ?_)
            · refine ab_iload_n (pc2 := 112) dX12_count_111 rfl rfl ?_
              refine ab_iconst (pc2 := 113) (v := 4) dX12_count_112 rfl ab_k_iconst_4 ?_
              refine ab_icmp_ne (tgt := 131) (pc2 := 116) dX12_count_113 (by decide) rfl hf (fun c39 hf => ?_) (fun c39 hf => ?_)
              · refine ab_iconst (pc2 := 132) (v := 0) dX12_count_131 rfl ab_k_iconst_0 ?_
                refine ab_iadd (pc2 := 133) dX12_count_132 rfl ?_
                refine ab_istore_n (pc2 := 134) (lo2 := [some (va_rf _), some (.int _), some (.int _), some (.int _)]) dX12_count_133 rfl (by decide) rfl ?_
                refine ab_iinc (pc2 := 137) (v := _ + 1) (lo2 := [some (va_rf _), some (.int _), some (.int _), some (.int _)]) dX12_count_134 rfl rfl rfl (by decide) rfl ?_
                refine ab_goto (tgt := 47) dX12_count_137 (by decide) ?_
                exact ab_weak (ih _ _ _ _ hf) (ab_leS (ab_leS (ab_leS (ab_leS ab_le0))))
              · refine ab_aload_n (x := _) (pc2 := 117) dX12_count_116 rfl rfl ?_
                refine ab_iload_n (pc2 := 118) dX12_count_117 rfl rfl ?_
                refine ab_iconst (pc2 := 119) (v := 0) dX12_count_118 rfl ab_k_iconst_0 ?_
                obtain ⟨w40, ew40, hf⟩ := ab_bind hf
                refine ab_callV (pc2 := 122) (st := [_]) rfl ht0 (by decide) (m_X12_get (d := (d + 2)) ht0 ew40) mf_X12_get tw_129 tw_128 ts_X12_get (Or.inl (by decide +kernel)) dX12_count_119 rfl (by omega) (Nat.le_refl _) (Nat.le_refl _) rfl (Nat.le_of_ble_eq_true rfl) (ab_kPi ?_)
                refine ab_bipush (pc2 := 124) (v := 6) dX12_count_122 rfl ab_k_bipush_6 ?_
                refine ab_icmp_ne (tgt := 131) (pc2 := 127) dX12_count_124 (by decide) rfl hf (fun c41 hf => ?_) (fun c41 hf => ?_)
                · refine ab_iconst (pc2 := 132) (v := 0) dX12_count_131 rfl ab_k_iconst_0 ?_
                  refine ab_iadd (pc2 := 133) dX12_count_132 rfl ?_
                  refine ab_istore_n (pc2 := 134) (lo2 := [some (va_rf _), some (.int _), some (.int _), some (.int _)]) dX12_count_133 rfl (by decide) rfl ?_
                  refine ab_iinc (pc2 := 137) (v := _ + 1) (lo2 := [some (va_rf _), some (.int _), some (.int _), some (.int _)]) dX12_count_134 rfl rfl rfl (by decide) rfl ?_
                  refine ab_goto (tgt := 47) dX12_count_137 (by decide) ?_
                  exact ab_weak (ih _ _ _ _ hf) (ab_leS (ab_leS (ab_leS (ab_leS ab_le0))))
                · refine ab_iconst (pc2 := 128) (v := 1) dX12_count_127 rfl ab_k_iconst_1 ?_
                  refine ab_goto (tgt := 132) dX12_count_128 (by decide) ?_
                  refine ab_iadd (pc2 := 133) dX12_count_132 rfl ?_
                  refine ab_istore_n (pc2 := 134) (lo2 := [some (va_rf _), some (.int _), some (.int _), some (.int _)]) dX12_count_133 rfl (by decide) rfl ?_
                  refine ab_iinc (pc2 := 137) (v := _ + 1) (lo2 := [some (va_rf _), some (.int _), some (.int _), some (.int _)]) dX12_count_134 rfl rfl rfl (by decide) rfl ?_
                  refine ab_goto (tgt := 47) dX12_count_137 (by decide) ?_
                  exact ab_weak (ih _ _ _ _ hf) (ab_leS (ab_leS (ab_leS (ab_leS ab_le0))))
            · refine ab_aload_n (x := _) (pc2 := 104) dX12_count_103 rfl rfl ?_
              refine ab_iload_n (pc2 := 105) dX12_count_104 rfl rfl ?_
              obtain ⟨w42, ew42, hf⟩ := ab_bind hf
              refine ab_callV (pc2 := 108) (st := [_]) rfl ht0 (by decide) (m_X12_isKept (d := (d + 1)) ht0 ew42) mf_X12_isKept tw_136 tw_135 ts_X12_isKept (Or.inl (by decide +kernel)) dX12_count_105 rfl (by omega) (Nat.le_refl _) (Nat.le_refl _) rfl (Nat.le_of_ble_eq_true rfl) (ab_kPb fun z43 => ?_)
              refine ab_if_ne (tgt := 127) (pc2 := 111) dX12_count_108 (by decide) rfl hf (fun c44 hf => ?_) (fun c44 hf => ?_)
              · refine ab_iconst (pc2 := 128) (v := 1) dX12_count_127 rfl ab_k_iconst_1 ?_
                refine ab_goto (tgt := 132) dX12_count_128 (by decide) ?_
                refine ab_iadd (pc2 := 133) dX12_count_132 rfl ?_
                refine ab_istore_n (pc2 := 134) (lo2 := [some (va_rf _), some (.int _), some (.int _), some (.int _)]) dX12_count_133 rfl (by decide) rfl ?_
                refine ab_iinc (pc2 := 137) (v := _ + 1) (lo2 := [some (va_rf _), some (.int _), some (.int _), some (.int _)]) dX12_count_134 rfl rfl rfl (by decide) rfl ?_
                refine ab_goto (tgt := 47) dX12_count_137 (by decide) ?_
                exact ab_weak (ih _ _ _ _ hf) (ab_leS (ab_leS (ab_leS (ab_leS ab_le0))))
              · refine ab_iload_n (pc2 := 112) dX12_count_111 rfl rfl ?_
                refine ab_iconst (pc2 := 113) (v := 4) dX12_count_112 rfl ab_k_iconst_4 ?_
                refine ab_icmp_ne (tgt := 131) (pc2 := 116) dX12_count_113 (by decide) rfl hf (fun c45 hf => ?_) (fun c45 hf => ?_)
                · refine ab_iconst (pc2 := 132) (v := 0) dX12_count_131 rfl ab_k_iconst_0 ?_
                  refine ab_iadd (pc2 := 133) dX12_count_132 rfl ?_
                  refine ab_istore_n (pc2 := 134) (lo2 := [some (va_rf _), some (.int _), some (.int _), some (.int _)]) dX12_count_133 rfl (by decide) rfl ?_
                  refine ab_iinc (pc2 := 137) (v := _ + 1) (lo2 := [some (va_rf _), some (.int _), some (.int _), some (.int _)]) dX12_count_134 rfl rfl rfl (by decide) rfl ?_
                  refine ab_goto (tgt := 47) dX12_count_137 (by decide) ?_
                  exact ab_weak (ih _ _ _ _ hf) (ab_leS (ab_leS (ab_leS (ab_leS ab_le0))))
                · refine ab_aload_n (x := _) (pc2 := 117) dX12_count_116 rfl rfl ?_
                  refine ab_iload_n (pc2 := 118) dX12_count_117 rfl rfl ?_
                  refine ab_iconst (pc2 := 119) (v := 0) dX12_count_118 rfl ab_k_iconst_0 ?_
                  obtain ⟨w46, ew46, hf⟩ := ab_bind hf
                  refine ab_callV (pc2 := 122) (st := [_]) rfl ht0 (by decide) (m_X12_get (d := (d + 2)) ht0 ew46) mf_X12_get tw_129 tw_128 ts_X12_get (Or.inl (by decide +kernel)) dX12_count_119 rfl (by omega) (Nat.le_refl _) (Nat.le_refl _) rfl (Nat.le_of_ble_eq_true rfl) (ab_kPi ?_)
                  refine ab_bipush (pc2 := 124) (v := 6) dX12_count_122 rfl ab_k_bipush_6 ?_
                  refine ab_icmp_ne (tgt := 131) (pc2 := 127) dX12_count_124 (by decide) rfl hf (fun c47 hf => ?_) (fun c47 hf => ?_)
                  · refine ab_iconst (pc2 := 132) (v := 0) dX12_count_131 rfl ab_k_iconst_0 ?_
                    refine ab_iadd (pc2 := 133) dX12_count_132 rfl ?_
                    refine ab_istore_n (pc2 := 134) (lo2 := [some (va_rf _), some (.int _), some (.int _), some (.int _)]) dX12_count_133 rfl (by decide) rfl ?_
                    refine ab_iinc (pc2 := 137) (v := _ + 1) (lo2 := [some (va_rf _), some (.int _), some (.int _), some (.int _)]) dX12_count_134 rfl rfl rfl (by decide) rfl ?_
                    refine ab_goto (tgt := 47) dX12_count_137 (by decide) ?_
                    exact ab_weak (ih _ _ _ _ hf) (ab_leS (ab_leS (ab_leS (ab_leS ab_le0))))
                  · refine ab_iconst (pc2 := 128) (v := 1) dX12_count_127 rfl ab_k_iconst_1 ?_
                    refine ab_goto (tgt := 132) dX12_count_128 (by decide) ?_
                    refine ab_iadd (pc2 := 133) dX12_count_132 rfl ?_
                    refine ab_istore_n (pc2 := 134) (lo2 := [some (va_rf _), some (.int _), some (.int _), some (.int _)]) dX12_count_133 rfl (by decide) rfl ?_
                    refine ab_iinc (pc2 := 137) (v := _ + 1) (lo2 := [some (va_rf _), some (.int _), some (.int _), some (.int _)]) dX12_count_134 rfl rfl rfl (by decide) rfl ?_
                    refine ab_goto (tgt := 47) dX12_count_137 (by decide) ?_
                    exact ab_weak (ih _ _ _ _ hf) (ab_leS (ab_leS (ab_leS (ab_leS ab_le0))))
      · refine ab_aload_n (x := _) (pc2 := 65) dX12_count_64 rfl rfl ?_
        refine ab_iload_n (pc2 := 66) dX12_count_65 rfl rfl ?_
        refine ab_iconst (pc2 := 67) (v := 3) dX12_count_66 rfl ab_k_iconst_3 ?_
        obtain ⟨w48, ew48, hf⟩ := ab_bind hf
        refine ab_callV (pc2 := 70) (st := [_]) rfl ht0 (by decide) (m_X12_get (d := (d + 2)) ht0 ew48) mf_X12_get tw_129 tw_128 ts_X12_get (Or.inl (by decide +kernel)) dX12_count_67 rfl (by omega) (Nat.le_refl _) (Nat.le_refl _) rfl (Nat.le_of_ble_eq_true rfl) (ab_kPi ?_)
        refine ab_goto (tgt := 132) dX12_count_70 (by decide) ?_
        refine ab_iadd (pc2 := 133) dX12_count_132 rfl ?_
        refine ab_istore_n (pc2 := 134) (lo2 := [some (va_rf _), some (.int _), some (.int _), some (.int _)]) dX12_count_133 rfl (by decide) rfl ?_
        refine ab_iinc (pc2 := 137) (v := _ + 1) (lo2 := [some (va_rf _), some (.int _), some (.int _), some (.int _)]) dX12_count_134 rfl rfl rfl (by decide) rfl ?_
        refine ab_goto (tgt := 47) dX12_count_137 (by decide) ?_
        exact ab_weak (ih _ _ _ _ hf) (ab_leS (ab_leS (ab_leS (ab_leS ab_le0))))
set_option maxHeartbeats 4000000 in
set_option maxRecDepth 100000 in
theorem x_X12_count {d : Nat} {t0 : Nat} {i1 : Int32} {h : ab_HP} {r : Int32} (ht0 : (ab_shp t0).1 = 5) (hf : f_X12_count t0 i1 h = some r) : ab_T mX12_count (d + 3) 0 0 0 0 0 [some (va_rf (some t0)), some (.int i1), none, none] [] h (ab_Pi r h) := by
  unfold f_X12_count at hf
  refine ab_iconst (pc2 := 1) (v := 0) dX12_count_0 rfl ab_k_iconst_0 ?_
  refine ab_istore_n (pc2 := 2) (lo2 := [some (va_rf _), some (.int _), some (.int _), none]) dX12_count_1 rfl (by decide) rfl ?_
  refine ab_iload_n (pc2 := 3) dX12_count_2 rfl rfl ?_
  refine ab_if_ne (tgt := 14) (pc2 := 6) dX12_count_3 (by decide) rfl hf (fun c1 hf => ?_) (fun c1 hf => ?_)
  · refine ab_iload_n (pc2 := 15) dX12_count_14 rfl rfl ?_
    refine ab_iconst (pc2 := 16) (v := 1) dX12_count_15 rfl ab_k_iconst_1 ?_
    refine ab_icmp_ne (tgt := 29) (pc2 := 19) dX12_count_16 (by decide) rfl hf (fun c2 hf => ?_) (fun c2 hf => ?_)
    · refine ab_iload_n (pc2 := 30) dX12_count_29 rfl rfl ?_
      refine ab_i2l (pc2 := 31) dX12_count_30 rfl ?_
      refine ab_ldc2 (pc2 := 34) (v := 2) dX12_count_31 rfl tw_143 ?_
      refine ab_ldc2 (pc2 := 37) (v := 5) dX12_count_34 rfl tw_327 ?_
      obtain ⟨w3, ew3, hf⟩ := ab_bind hf
      refine ab_callS (pc2 := 40) (st := []) (m_X12_isIn (d := (d + 2)) ew3) mf_X12_isIn tw_101 tw_102 dX12_count_37 rfl (by omega) (Nat.le_refl _) (Nat.le_refl _) rfl (Nat.le_of_ble_eq_true rfl) (ab_kPb fun z4 => ?_)
      refine ab_if_ne (tgt := 45) (pc2 := 43) dX12_count_40 (by decide) rfl hf (fun c5 hf => ?_) (fun c5 hf => ?_)
      · refine ab_iconst (pc2 := 46) (v := 0) dX12_count_45 rfl ab_k_iconst_0 ?_
        refine ab_istore_n (pc2 := 47) (lo2 := [some (va_rf _), some (.int _), some (.int _), some (.int _)]) dX12_count_46 rfl (by decide) rfl ?_
        exact ab_weak (x_X12_count_l47 ht0 _ _ _ _ _ hf) (ab_leS (ab_leS (ab_leS (ab_leS ab_le0))))
      · refine ab_iconst (pc2 := 44) (v := (-1)) dX12_count_43 rfl ab_k_iconst_m1 ?_
        cases Option.some.inj hf
        exact ab_retI dX12_count_44 (Or.inl rfl) (Nat.le_refl _) (Nat.le_refl _) ⟨rfl, rfl⟩
    · refine ab_aload_n (x := _) (pc2 := 20) dX12_count_19 rfl rfl ?_
      refine ab_getR (pc2 := 23) rfl ht0 fa_X12_9 dX12_count_20 rfl (fun T6 => ?_)
      refine ab_iconst (pc2 := 24) (v := 0) dX12_count_23 rfl ab_k_iconst_0 ?_
      obtain ⟨q7, hq7, hf⟩ := ab_bind hf
      obtain ⟨b8, hf⟩ := ab_guard hf
      refine ab_iald (pc2 := 25) hq7 (T6 q7 hq7) (ab_in_vp b8) dX12_count_24 rfl ?_
      obtain ⟨w9, ew9, hf⟩ := ab_bind hf
      refine ab_callS (pc2 := 28) (st := []) (m_X12_bits (d := (d + 2)) ew9) mf_X12_bits tw_246 tw_247 dX12_count_25 rfl (by omega) (Nat.le_refl _) (Nat.le_refl _) rfl (Nat.le_of_ble_eq_true rfl) (ab_kPi ?_)
      cases Option.some.inj hf
      exact ab_retI dX12_count_28 (Or.inl rfl) (Nat.le_refl _) (Nat.le_refl _) ⟨rfl, rfl⟩
  · refine ab_aload_n (x := _) (pc2 := 7) dX12_count_6 rfl rfl ?_
    refine ab_getR (pc2 := 10) rfl ht0 fa_X12_9 dX12_count_7 rfl (fun T10 => ?_)
    refine ab_bipush (pc2 := 12) (v := 6) dX12_count_10 rfl ab_k_bipush_6 ?_
    obtain ⟨q11, hq11, hf⟩ := ab_bind hf
    obtain ⟨b12, hf⟩ := ab_guard hf
    refine ab_iald (pc2 := 13) hq11 (T10 q11 hq11) (ab_in_vp b12) dX12_count_12 rfl ?_
    cases Option.some.inj hf
    exact ab_retI dX12_count_13 (Or.inl rfl) (Nat.le_refl _) (Nat.le_refl _) ⟨rfl, rfl⟩
set_option maxHeartbeats 4000000 in
set_option maxRecDepth 100000 in
theorem m_X12_count {d : Nat} {t0 : Nat} {i1 : Int32} {h : ab_HP} {r : Int32} (ht0 : (ab_shp t0).1 = 5) (hf : f_X12_count t0 i1 h = some r) : ab_MET mX12_count (d + 3) 0 0 [va_rf (some t0), .int i1] h (ab_Pi r h) := ab_met (by decide +kernel) (by decide +kernel) (Nat.le_of_ble_eq_true rfl) rfl (x_X12_count ht0 hf)
set_option maxHeartbeats 4000000 in
set_option maxRecDepth 100000 in
theorem x_X12_careOf {d : Nat} {t0 : Nat} {i1 : Int32} {h : ab_HP} {r : Int32} (ht0 : (ab_shp t0).1 = 5) (hf : f_X12_careOf t0 i1 h = some r) : ab_T mX12_careOf (d + 1) 0 0 0 0 0 [some (va_rf (some t0)), some (.int i1), none] [] h (ab_Pi r h) := by
  unfold f_X12_careOf at hf
  refine ab_aload_n (x := _) (pc2 := 1) dX12_careOf_0 rfl rfl ?_
  refine ab_iload_n (pc2 := 2) dX12_careOf_1 rfl rfl ?_
  refine ab_iconst (pc2 := 3) (v := 4) dX12_careOf_2 rfl ab_k_iconst_4 ?_
  obtain ⟨w1, ew1, hf⟩ := ab_bind hf
  refine ab_callV (pc2 := 6) (st := []) rfl ht0 (by decide) (m_X12_get (d := (d + 0)) ht0 ew1) mf_X12_get tw_129 tw_128 ts_X12_get (Or.inl (by decide +kernel)) dX12_careOf_3 rfl (by omega) (Nat.le_refl _) (Nat.le_refl _) rfl (Nat.le_of_ble_eq_true rfl) (ab_kPi ?_)
  refine ab_istore_n (pc2 := 7) (lo2 := [some (va_rf _), some (.int _), some (.int _)]) dX12_careOf_6 rfl (by decide) rfl ?_
  refine ab_aload_n (x := _) (pc2 := 8) dX12_careOf_7 rfl rfl ?_
  refine ab_iload_n (pc2 := 9) dX12_careOf_8 rfl rfl ?_
  refine ab_iconst (pc2 := 10) (v := 0) dX12_careOf_9 rfl ab_k_iconst_0 ?_
  obtain ⟨w2, ew2, hf⟩ := ab_bind hf
  refine ab_callV (pc2 := 13) (st := []) rfl ht0 (by decide) (m_X12_get (d := (d + 0)) ht0 ew2) mf_X12_get tw_129 tw_128 ts_X12_get (Or.inl (by decide +kernel)) dX12_careOf_10 rfl (by omega) (Nat.le_refl _) (Nat.le_refl _) rfl (Nat.le_of_ble_eq_true rfl) (ab_kPi ?_)
  rcases ab_cas hf with ⟨s3, hf⟩ | ⟨s3, hf⟩
  · refine ab_tswK (tgt := 56) (off := 43) dX12_careOf_13 s3 (by decide) (by decide) (by decide +kernel) (by decide) ?_
    refine ab_bipush (pc2 := 58) (v := 12) dX12_careOf_56 rfl ab_k_bipush_12 ?_
    cases Option.some.inj hf
    exact ab_retI dX12_careOf_58 (Or.inl rfl) (Nat.le_refl _) (Nat.le_refl _) ⟨rfl, rfl⟩
  rcases ab_cas hf with ⟨s4, hf⟩ | ⟨s4, hf⟩
  · refine ab_tswK (tgt := 59) (off := 46) dX12_careOf_13 s4 (by decide) (by decide) (by decide +kernel) (by decide) ?_
    refine ab_iconst (pc2 := 60) (v := 4) dX12_careOf_59 rfl ab_k_iconst_4 ?_
    refine ab_aload_n (x := _) (pc2 := 61) dX12_careOf_60 rfl rfl ?_
    refine ab_iload_n (pc2 := 62) dX12_careOf_61 rfl rfl ?_
    refine ab_iconst (pc2 := 63) (v := 3) dX12_careOf_62 rfl ab_k_iconst_3 ?_
    obtain ⟨w5, ew5, hf⟩ := ab_bind hf
    refine ab_callV (pc2 := 66) (st := [_]) rfl ht0 (by decide) (m_X12_get (d := (d + 0)) ht0 ew5) mf_X12_get tw_129 tw_128 ts_X12_get (Or.inl (by decide +kernel)) dX12_careOf_63 rfl (by omega) (Nat.le_refl _) (Nat.le_refl _) rfl (Nat.le_of_ble_eq_true rfl) (ab_kPi ?_)
    refine ab_iadd (pc2 := 67) dX12_careOf_66 rfl ?_
    cases Option.some.inj hf
    exact ab_retI dX12_careOf_67 (Or.inl rfl) (Nat.le_refl _) (Nat.le_refl _) ⟨rfl, rfl⟩
  rcases ab_cas hf with ⟨s6, hf⟩ | ⟨s6, hf⟩
  · refine ab_tswK (tgt := 68) (off := 55) dX12_careOf_13 s6 (by decide) (by decide) (by decide +kernel) (by decide) ?_
    refine ab_iconst (pc2 := 69) (v := 4) dX12_careOf_68 rfl ab_k_iconst_4 ?_
    refine ab_aload_n (x := _) (pc2 := 70) dX12_careOf_69 rfl rfl ?_
    refine ab_iload_n (pc2 := 71) dX12_careOf_70 rfl rfl ?_
    refine ab_iconst (pc2 := 72) (v := 3) dX12_careOf_71 rfl ab_k_iconst_3 ?_
    obtain ⟨w7, ew7, hf⟩ := ab_bind hf
    refine ab_callV (pc2 := 75) (st := [_]) rfl ht0 (by decide) (m_X12_get (d := (d + 0)) ht0 ew7) mf_X12_get tw_129 tw_128 ts_X12_get (Or.inl (by decide +kernel)) dX12_careOf_72 rfl (by omega) (Nat.le_refl _) (Nat.le_refl _) rfl (Nat.le_of_ble_eq_true rfl) (ab_kPi ?_)
    refine ab_iadd (pc2 := 76) dX12_careOf_75 rfl ?_
    refine ab_iload_n (pc2 := 77) dX12_careOf_76 rfl rfl ?_
    refine ab_isub (pc2 := 78) dX12_careOf_77 rfl ?_
    cases Option.some.inj hf
    exact ab_retI dX12_careOf_78 (Or.inl rfl) (Nat.le_refl _) (Nat.le_refl _) ⟨rfl, rfl⟩
  rcases ab_cas hf with ⟨s8, hf⟩ | ⟨s8, hf⟩
  · refine ab_tswK (tgt := 79) (off := 66) dX12_careOf_13 s8 (by decide) (by decide) (by decide +kernel) (by decide) ?_
    refine ab_iconst (pc2 := 80) (v := 1) dX12_careOf_79 rfl ab_k_iconst_1 ?_
    cases Option.some.inj hf
    exact ab_retI dX12_careOf_80 (Or.inl rfl) (Nat.le_refl _) (Nat.le_refl _) ⟨rfl, rfl⟩
  rcases ab_cas hf with ⟨s9, hf⟩ | ⟨s9, hf⟩
  · refine ab_tswK (tgt := 81) (off := 68) dX12_careOf_13 s9 (by decide) (by decide) (by decide +kernel) (by decide) ?_
    refine ab_bipush (pc2 := 83) (v := 13) dX12_careOf_81 rfl ab_k_bipush_13 ?_
    cases Option.some.inj hf
    exact ab_retI dX12_careOf_83 (Or.inl rfl) (Nat.le_refl _) (Nat.le_refl _) ⟨rfl, rfl⟩
  rcases ab_cas hf with ⟨s10, hf⟩ | ⟨s10, hf⟩
  · refine ab_tswK (tgt := 84) (off := 71) dX12_careOf_13 s10 (by decide) (by decide) (by decide +kernel) (by decide) ?_
    refine ab_bipush (pc2 := 86) (v := 8) dX12_careOf_84 rfl ab_k_bipush_8 ?_
    cases Option.some.inj hf
    exact ab_retI dX12_careOf_86 (Or.inl rfl) (Nat.le_refl _) (Nat.le_refl _) ⟨rfl, rfl⟩
  rcases ab_cas hf with ⟨s11, hf⟩ | ⟨s11, hf⟩
  · refine ab_tswK (tgt := 87) (off := 74) dX12_careOf_13 s11 (by decide) (by decide) (by decide +kernel) (by decide) ?_
    refine ab_iload_n (pc2 := 88) dX12_careOf_87 rfl rfl ?_
    cases Option.some.inj hf
    exact ab_retI dX12_careOf_88 (Or.inl rfl) (Nat.le_refl _) (Nat.le_refl _) ⟨rfl, rfl⟩
  have s3n := lv_neT s3 (by decide : (1 : Int32).toInt = 1)
  have s4n := lv_neT s4 (by decide : (2 : Int32).toInt = 2)
  have s6n := lv_neT s6 (by decide : (3 : Int32).toInt = 3)
  have s8n := lv_neT s8 (by decide : (4 : Int32).toInt = 4)
  have s9n := lv_neT s9 (by decide : (5 : Int32).toInt = 5)
  have s10n := lv_neT s10 (by decide : (6 : Int32).toInt = 6)
  have s11n := lv_neT s11 (by decide : (7 : Int32).toInt = 7)
  refine ab_tswOut (tgt := 89) dX12_careOf_13 (by omega) (by decide) ?_
  refine ab_iconst (pc2 := 90) (v := 4) dX12_careOf_89 rfl ab_k_iconst_4 ?_
  cases Option.some.inj hf
  exact ab_retI dX12_careOf_90 (Or.inl rfl) (Nat.le_refl _) (Nat.le_refl _) ⟨rfl, rfl⟩
set_option maxHeartbeats 4000000 in
set_option maxRecDepth 100000 in
theorem m_X12_careOf {d : Nat} {t0 : Nat} {i1 : Int32} {h : ab_HP} {r : Int32} (ht0 : (ab_shp t0).1 = 5) (hf : f_X12_careOf t0 i1 h = some r) : ab_MET mX12_careOf (d + 1) 0 0 [va_rf (some t0), .int i1] h (ab_Pi r h) := ab_met (by decide +kernel) (by decide +kernel) (Nat.le_of_ble_eq_true rfl) rfl (x_X12_careOf ht0 hf)
set_option maxHeartbeats 4000000 in
set_option maxRecDepth 100000 in
theorem x_X12_keep_b32 {d : Nat} {t0 : Nat} {i1 : Int32} {i2 : Int32} {i3 : Int32} {h : ab_HP} {r : (Int32 × ab_HP)} (ht0 : (ab_shp t0).1 = 5) (hf : f_X12_keep_b32 t0 i1 i2 i3 h = some r) : ab_T mX12_keep (d + 2) 0 0 0 0 32 [some (va_rf (some t0)), some (.int i1), some (.int i2), some (.int i3), none] [] h (ab_Pi r.1 r.2) := by
  unfold f_X12_keep_b32 at hf
  refine ab_aload_n (x := _) (pc2 := 33) dX12_keep_32 rfl rfl ?_
  refine ab_getR (pc2 := 36) rfl ht0 fa_X12_19 dX12_keep_33 rfl (fun T11 => ?_)
  refine ab_iload_n (pc2 := 37) dX12_keep_36 rfl rfl ?_
  refine ab_iload_n (pc2 := 38) dX12_keep_37 rfl rfl ?_
  obtain ⟨q12, hq12, hf⟩ := ab_bind hf
  obtain ⟨b13, hf⟩ := ab_guard hf
  obtain ⟨h14, eh14, hf⟩ := ab_let_x hf
  refine ab_iast (pc2 := 39) hq12 (T11 q12 hq12) (ab_in_vp b13) dX12_keep_38 rfl ?_
  refine ab_topH eh14 ?_
  refine ab_iload_n (pc2 := 40) dX12_keep_39 rfl rfl ?_
  refine ab_if_ne (tgt := 45) (pc2 := 43) dX12_keep_40 (by decide) rfl hf (fun c15 hf => ?_) (fun c15 hf => ?_)
  · refine ab_aload_n (x := _) (pc2 := 46) dX12_keep_45 rfl rfl ?_
    refine ab_iload_n (pc2 := 47) dX12_keep_46 rfl rfl ?_
    refine ab_iconst (pc2 := 48) (v := 0) dX12_keep_47 rfl ab_k_iconst_0 ?_
    obtain ⟨w16, ew16, hf⟩ := ab_bind hf
    refine ab_callV (pc2 := 51) (st := []) rfl ht0 (by decide) (m_X12_get (d := (d + 1)) ht0 ew16) mf_X12_get tw_129 tw_128 ts_X12_get (Or.inl (by decide +kernel)) dX12_keep_48 rfl (by omega) (Nat.le_refl _) (Nat.le_refl _) rfl (Nat.le_of_ble_eq_true rfl) (ab_kPi ?_)
    refine ab_istore (pc2 := 53) (lo2 := [some (va_rf _), some (.int _), some (.int _), some (.int _), some (.int _)]) dX12_keep_51 rfl (by decide) rfl ?_
    refine ab_aload_n (x := _) (pc2 := 54) dX12_keep_53 rfl rfl ?_
    refine ab_getR (pc2 := 57) rfl ht0 fa_X12_31 dX12_keep_54 rfl (fun T17 => ?_)
    refine ab_iload_n (pc2 := 58) dX12_keep_57 rfl rfl ?_
    refine ab_aload_n (x := _) (pc2 := 59) dX12_keep_58 rfl rfl ?_
    refine ab_iload_n (pc2 := 60) dX12_keep_59 rfl rfl ?_
    obtain ⟨w18, ew18, hf⟩ := ab_bind hf
    refine ab_callV (pc2 := 63) (st := [_, _]) rfl ht0 (by decide) (m_X12_careOf (d := (d + 0)) ht0 ew18) mf_X12_careOf tw_331 tw_330 ts_X12_careOf (Or.inl (by decide +kernel)) dX12_keep_60 rfl (by omega) (Nat.le_refl _) (Nat.le_refl _) rfl (Nat.le_of_ble_eq_true rfl) (ab_kPi ?_)
    obtain ⟨q19, hq19, hf⟩ := ab_bind hf
    obtain ⟨b20, hf⟩ := ab_guard hf
    obtain ⟨h21, eh21, hf⟩ := ab_let_x hf
    refine ab_iast (pc2 := 64) hq19 (T17 q19 hq19) (ab_in_vp b20) dX12_keep_63 rfl ?_
    refine ab_topH eh21 ?_
    refine ab_aload_n (x := _) (pc2 := 65) dX12_keep_64 rfl rfl ?_
    refine ab_getR (pc2 := 68) rfl ht0 fa_X12_34 dX12_keep_65 rfl (fun T22 => ?_)
    refine ab_iload_n (pc2 := 69) dX12_keep_68 rfl rfl ?_
    refine ab_iload (pc2 := 71) dX12_keep_69 rfl rfl ?_
    refine ab_iconst (pc2 := 72) (v := 3) dX12_keep_71 rfl ab_k_iconst_3 ?_
    refine ab_icmp_eq (tgt := 84) (pc2 := 75) dX12_keep_72 (by decide) rfl hf (fun c23 hf => ?_) (fun c23 hf => ?_)
    · refine ab_bipush (pc2 := 86) (v := (-15)) dX12_keep_84 rfl ab_k_bipush_m15 ?_
      refine ab_goto (tgt := 122) dX12_keep_86 (by decide) ?_
      obtain ⟨q24, hq24, hf⟩ := ab_bind hf
      obtain ⟨b25, hf⟩ := ab_guard hf
      obtain ⟨h26, eh26, hf⟩ := ab_let_x hf
      refine ab_iast (pc2 := 123) hq24 (T22 q24 hq24) (ab_in_vp b25) dX12_keep_122 rfl ?_
      refine ab_topH eh26 ?_
      refine ab_iconst (pc2 := 124) (v := 0) dX12_keep_123 rfl ab_k_iconst_0 ?_
      cases Option.some.inj hf
      exact ab_retI dX12_keep_124 (Or.inl rfl) (Nat.le_refl _) (Nat.le_refl _) ⟨rfl, rfl⟩
    · refine ab_aload_n (x := _) (pc2 := 76) dX12_keep_75 rfl rfl ?_
      refine ab_iload_n (pc2 := 77) dX12_keep_76 rfl rfl ?_
      refine ab_iconst (pc2 := 78) (v := 4) dX12_keep_77 rfl ab_k_iconst_4 ?_
      obtain ⟨w27, ew27, hf⟩ := ab_bind hf
      refine ab_callV (pc2 := 81) (st := [_, _]) rfl ht0 (by decide) (m_X12_get (d := (d + 1)) ht0 ew27) mf_X12_get tw_129 tw_128 ts_X12_get (Or.inl (by decide +kernel)) dX12_keep_78 rfl (by omega) (Nat.le_refl _) (Nat.le_refl _) rfl (Nat.le_of_ble_eq_true rfl) (ab_kPi ?_)
      refine ab_if_ne (tgt := 89) (pc2 := 84) dX12_keep_81 (by decide) rfl hf (fun c28 hf => ?_) (fun c28 hf => ?_)
      · refine ab_iload (pc2 := 91) dX12_keep_89 rfl rfl ?_
        refine ab_iconst (pc2 := 92) (v := 5) dX12_keep_91 rfl ab_k_iconst_5 ?_
        refine ab_icmp_ne (tgt := 102) (pc2 := 95) dX12_keep_92 (by decide) rfl hf (fun c29 hf => ?_) (fun c29 hf => ?_)
        · refine ab_iload (pc2 := 104) dX12_keep_102 rfl rfl ?_
          refine ab_bipush (pc2 := 106) (v := 7) dX12_keep_104 rfl ab_k_bipush_7 ?_
          refine ab_icmp_ne (tgt := 121) (pc2 := 109) dX12_keep_106 (by decide) rfl hf (fun c30 hf => ?_) (fun c30 hf => ?_)
          · refine ab_iload_n (pc2 := 122) dX12_keep_121 rfl rfl ?_
            obtain ⟨q31, hq31, hf⟩ := ab_bind hf
            obtain ⟨b32, hf⟩ := ab_guard hf
            obtain ⟨h33, eh33, hf⟩ := ab_let_x hf
            refine ab_iast (pc2 := 123) hq31 (T22 q31 hq31) (ab_in_vp b32) dX12_keep_122 rfl ?_
            refine ab_topH eh33 ?_
            refine ab_iconst (pc2 := 124) (v := 0) dX12_keep_123 rfl ab_k_iconst_0 ?_
            cases Option.some.inj hf
            exact ab_retI dX12_keep_124 (Or.inl rfl) (Nat.le_refl _) (Nat.le_refl _) ⟨rfl, rfl⟩
          · refine ab_sipush (pc2 := 112) (v := 200) dX12_keep_109 rfl ab_k_sipush_200 ?_
            refine ab_aload_n (x := _) (pc2 := 113) dX12_keep_112 rfl rfl ?_
            refine ab_iload_n (pc2 := 114) dX12_keep_113 rfl rfl ?_
            obtain ⟨w34, ew34, hf⟩ := ab_bind hf
            refine ab_callV (pc2 := 117) (st := [_, _, _]) rfl ht0 (by decide) (m_X12_careOf (d := (d + 0)) ht0 ew34) mf_X12_careOf tw_331 tw_330 ts_X12_careOf (Or.inl (by decide +kernel)) dX12_keep_114 rfl (by omega) (Nat.le_refl _) (Nat.le_refl _) rfl (Nat.le_of_ble_eq_true rfl) (ab_kPi ?_)
            refine ab_iadd (pc2 := 118) dX12_keep_117 rfl ?_
            refine ab_goto (tgt := 122) dX12_keep_118 (by decide) ?_
            obtain ⟨q35, hq35, hf⟩ := ab_bind hf
            obtain ⟨b36, hf⟩ := ab_guard hf
            obtain ⟨h37, eh37, hf⟩ := ab_let_x hf
            refine ab_iast (pc2 := 123) hq35 (T22 q35 hq35) (ab_in_vp b36) dX12_keep_122 rfl ?_
            refine ab_topH eh37 ?_
            refine ab_iconst (pc2 := 124) (v := 0) dX12_keep_123 rfl ab_k_iconst_0 ?_
            cases Option.some.inj hf
            exact ab_retI dX12_keep_124 (Or.inl rfl) (Nat.le_refl _) (Nat.le_refl _) ⟨rfl, rfl⟩
        · refine ab_bipush (pc2 := 97) (v := 100) dX12_keep_95 rfl ab_k_bipush_100 ?_
          refine ab_iload_n (pc2 := 98) dX12_keep_97 rfl rfl ?_
          refine ab_iadd (pc2 := 99) dX12_keep_98 rfl ?_
          refine ab_goto (tgt := 122) dX12_keep_99 (by decide) ?_
          obtain ⟨q38, hq38, hf⟩ := ab_bind hf
          obtain ⟨b39, hf⟩ := ab_guard hf
          obtain ⟨h40, eh40, hf⟩ := ab_let_x hf
          refine ab_iast (pc2 := 123) hq38 (T22 q38 hq38) (ab_in_vp b39) dX12_keep_122 rfl ?_
          refine ab_topH eh40 ?_
          refine ab_iconst (pc2 := 124) (v := 0) dX12_keep_123 rfl ab_k_iconst_0 ?_
          cases Option.some.inj hf
          exact ab_retI dX12_keep_124 (Or.inl rfl) (Nat.le_refl _) (Nat.le_refl _) ⟨rfl, rfl⟩
      · refine ab_bipush (pc2 := 86) (v := (-15)) dX12_keep_84 rfl ab_k_bipush_m15 ?_
        refine ab_goto (tgt := 122) dX12_keep_86 (by decide) ?_
        obtain ⟨q41, hq41, hf⟩ := ab_bind hf
        obtain ⟨b42, hf⟩ := ab_guard hf
        obtain ⟨h43, eh43, hf⟩ := ab_let_x hf
        refine ab_iast (pc2 := 123) hq41 (T22 q41 hq41) (ab_in_vp b42) dX12_keep_122 rfl ?_
        refine ab_topH eh43 ?_
        refine ab_iconst (pc2 := 124) (v := 0) dX12_keep_123 rfl ab_k_iconst_0 ?_
        cases Option.some.inj hf
        exact ab_retI dX12_keep_124 (Or.inl rfl) (Nat.le_refl _) (Nat.le_refl _) ⟨rfl, rfl⟩
  · refine ab_iconst (pc2 := 44) (v := 0) dX12_keep_43 rfl ab_k_iconst_0 ?_
    cases Option.some.inj hf
    exact ab_retI dX12_keep_44 (Or.inl rfl) (Nat.le_refl _) (Nat.le_refl _) ⟨rfl, rfl⟩
set_option maxHeartbeats 4000000 in
set_option maxRecDepth 100000 in
theorem x_X12_keep {d : Nat} {t0 : Nat} {i1 : Int32} {i2 : Int32} {i3 : Int32} {h : ab_HP} {r : (Int32 × ab_HP)} (ht0 : (ab_shp t0).1 = 5) (hf : f_X12_keep t0 i1 i2 i3 h = some r) : ab_T mX12_keep (d + 2) 0 0 0 0 0 [some (va_rf (some t0)), some (.int i1), some (.int i2), some (.int i3), none] [] h (ab_Pi r.1 r.2) := by
  unfold f_X12_keep at hf
  refine ab_iload_n (pc2 := 1) dX12_keep_0 rfl rfl ?_
  obtain ⟨w1, ew1, hf⟩ := ab_bind hf
  refine ab_callS (pc2 := 4) (st := []) (m_X12_isShelf (d := (d + 0)) ew1) mf_X12_isShelf tw_103 tw_104 dX12_keep_1 rfl (by omega) (Nat.le_refl _) (Nat.le_refl _) rfl (Nat.le_of_ble_eq_true rfl) (ab_kPb fun z2 => ?_)
  refine ab_if_eq (tgt := 30) (pc2 := 7) dX12_keep_4 (by decide) rfl hf (fun c3 hf => ?_) (fun c3 hf => ?_)
  · refine ab_iconst (pc2 := 31) (v := (-1)) dX12_keep_30 rfl ab_k_iconst_m1 ?_
    cases Option.some.inj hf
    exact ab_retI dX12_keep_31 (Or.inl rfl) (Nat.le_refl _) (Nat.le_refl _) ⟨rfl, rfl⟩
  · refine ab_iload_n (pc2 := 8) dX12_keep_7 rfl rfl ?_
    refine ab_i2l (pc2 := 9) dX12_keep_8 rfl ?_
    refine ab_lconst (pc2 := 10) (v := 0) dX12_keep_9 rfl rfl ?_
    refine ab_lconst (pc2 := 11) (v := 1) dX12_keep_10 rfl rfl ?_
    obtain ⟨w4, ew4, hf⟩ := ab_bind hf
    refine ab_callS (pc2 := 14) (st := []) (m_X12_isIn (d := (d + 1)) ew4) mf_X12_isIn tw_101 tw_102 dX12_keep_11 rfl (by omega) (Nat.le_refl _) (Nat.le_refl _) rfl (Nat.le_of_ble_eq_true rfl) (ab_kPb fun z5 => ?_)
    refine ab_if_eq (tgt := 30) (pc2 := 17) dX12_keep_14 (by decide) rfl hf (fun c6 hf => ?_) (fun c6 hf => ?_)
    · refine ab_iconst (pc2 := 31) (v := (-1)) dX12_keep_30 rfl ab_k_iconst_m1 ?_
      cases Option.some.inj hf
      exact ab_retI dX12_keep_31 (Or.inl rfl) (Nat.le_refl _) (Nat.le_refl _) ⟨rfl, rfl⟩
    · refine ab_iload_n (pc2 := 18) dX12_keep_17 rfl rfl ?_
      refine ab_iconst (pc2 := 19) (v := 1) dX12_keep_18 rfl ab_k_iconst_1 ?_
      refine ab_icmp_ne (tgt := 32) (pc2 := 22) dX12_keep_19 (by decide) rfl hf (fun c7 hf => ?_) (fun c7 hf => ?_)
      · exact ab_weak (x_X12_keep_b32 ht0 hf) (ab_leS (ab_leS (ab_leS (ab_leS (ab_leN ab_le0)))))
      · refine ab_aload_n (x := _) (pc2 := 23) dX12_keep_22 rfl rfl ?_
        refine ab_iload_n (pc2 := 24) dX12_keep_23 rfl rfl ?_
        obtain ⟨w8, ew8, hf⟩ := ab_bind hf
        refine ab_callV (pc2 := 27) (st := []) rfl ht0 (by decide) (m_X12_isDeed (d := (d + 0)) ht0 ew8) mf_X12_isDeed tw_133 tw_132 ts_X12_isDeed (Or.inl (by decide +kernel)) dX12_keep_24 rfl (by omega) (Nat.le_refl _) (Nat.le_refl _) rfl (Nat.le_of_ble_eq_true rfl) (ab_kPb fun z9 => ?_)
        refine ab_if_ne (tgt := 32) (pc2 := 30) dX12_keep_27 (by decide) rfl hf (fun c10 hf => ?_) (fun c10 hf => ?_)
        · exact ab_weak (x_X12_keep_b32 ht0 hf) (ab_leS (ab_leS (ab_leS (ab_leS (ab_leN ab_le0)))))
        · refine ab_iconst (pc2 := 31) (v := (-1)) dX12_keep_30 rfl ab_k_iconst_m1 ?_
          cases Option.some.inj hf
          exact ab_retI dX12_keep_31 (Or.inl rfl) (Nat.le_refl _) (Nat.le_refl _) ⟨rfl, rfl⟩
set_option maxHeartbeats 4000000 in
set_option maxRecDepth 100000 in
theorem m_X12_keep {d : Nat} {t0 : Nat} {i1 : Int32} {i2 : Int32} {i3 : Int32} {h : ab_HP} {r : (Int32 × ab_HP)} (ht0 : (ab_shp t0).1 = 5) (hf : f_X12_keep t0 i1 i2 i3 h = some r) : ab_MET mX12_keep (d + 2) 0 0 [va_rf (some t0), .int i1, .int i2, .int i3] h (ab_Pi r.1 r.2) := ab_met (by decide +kernel) (by decide +kernel) (Nat.le_of_ble_eq_true rfl) rfl (x_X12_keep ht0 hf)
set_option maxHeartbeats 4000000 in
set_option maxRecDepth 100000 in
theorem x_X12_row_l58 {d : Nat} {t0 : Nat} {r : (Int32 × ab_HP)} (ht0 : (ab_shp t0).1 = 5) : ∀ (n : Nat) (i1 : Int32) (i4 : Int32) (h : ab_HP), f_X12_row_l58 t0 n i1 i4 h = some r → ab_T mX12_row (d + 2) 0 0 0 0 58 [some (va_rf (some t0)), some (.int i1), none, none, some (.int i4)] [] h (ab_Pi r.1 r.2) := by
  intro n
  induction n with
  | zero =>
    intro i1 i4 h hf
    rw [f_X12_row_l58] at hf
    cases hf
  | succ n ih =>
    intro i1 i4 h hf
    rw [f_X12_row_l58] at hf
    refine ab_iload (pc2 := 60) dX12_row_58 rfl rfl ?_
    refine ab_bipush (pc2 := 62) (v := 100) dX12_row_60 rfl ab_k_bipush_100 ?_
    refine ab_icmp_ge (tgt := 84) (pc2 := 65) dX12_row_62 (by decide) rfl hf (fun c21 hf => ?_) (fun c21 hf => ?_)
    · refine ab_iconst (pc2 := 85) (v := 0) dX12_row_84 rfl ab_k_iconst_0 ?_
      cases Option.some.inj hf
      exact ab_retI dX12_row_85 (Or.inl rfl) (Nat.le_refl _) (Nat.le_refl _) ⟨rfl, rfl⟩
    · refine ab_aload_n (x := _) (pc2 := 66) dX12_row_65 rfl rfl ?_
      refine ab_getR (pc2 := 69) rfl ht0 fa_X12_28 dX12_row_66 rfl (fun T22 => ?_)
      refine ab_bipush (pc2 := 71) (v := 100) dX12_row_69 rfl ab_k_bipush_100 ?_
      refine ab_iload_n (pc2 := 72) dX12_row_71 rfl rfl ?_
      refine ab_imul (pc2 := 73) dX12_row_72 rfl ?_
      refine ab_iload (pc2 := 75) dX12_row_73 rfl rfl ?_
      refine ab_iadd (pc2 := 76) dX12_row_75 rfl ?_
      refine ab_iconst (pc2 := 77) (v := 0) dX12_row_76 rfl ab_k_iconst_0 ?_
      obtain ⟨q23, hq23, hf⟩ := ab_bind hf
      obtain ⟨b24, hf⟩ := ab_guard hf
      obtain ⟨h25, eh25, hf⟩ := ab_let_x hf
      refine ab_iast (pc2 := 78) hq23 (T22 q23 hq23) (ab_in_vp b24) dX12_row_77 rfl ?_
      refine ab_topH eh25 ?_
      refine ab_iinc (pc2 := 81) (v := _ + 1) (lo2 := [some (va_rf _), some (.int _), none, none, some (.int _)]) dX12_row_78 rfl rfl rfl (by decide) rfl ?_
      refine ab_goto (tgt := 58) dX12_row_81 (by decide) ?_
      exact ab_weak (ih _ _ _ hf) (ab_leS (ab_leS (ab_leN (ab_leN (ab_leS ab_le0)))))
set_option maxHeartbeats 4000000 in
set_option maxRecDepth 100000 in
theorem x_X12_row {d : Nat} {t0 : Nat} {i1 : Int32} {i2 : Int32} {i3 : Int32} {h : ab_HP} {r : (Int32 × ab_HP)} (ht0 : (ab_shp t0).1 = 5) (hf : f_X12_row t0 i1 i2 i3 h = some r) : ab_T mX12_row (d + 2) 0 0 0 0 0 [some (va_rf (some t0)), some (.int i1), some (.int i2), some (.int i3), none] [] h (ab_Pi r.1 r.2) := by
  unfold f_X12_row at hf
  refine ab_iload_n (pc2 := 1) dX12_row_0 rfl rfl ?_
  obtain ⟨w1, ew1, hf⟩ := ab_bind hf
  refine ab_callS (pc2 := 4) (st := []) (m_X12_isShelf (d := (d + 0)) ew1) mf_X12_isShelf tw_103 tw_104 dX12_row_1 rfl (by omega) (Nat.le_refl _) (Nat.le_refl _) rfl (Nat.le_of_ble_eq_true rfl) (ab_kPb fun z2 => ?_)
  refine ab_if_eq (tgt := 25) (pc2 := 7) dX12_row_4 (by decide) rfl hf (fun c3 hf => ?_) (fun c3 hf => ?_)
  · refine ab_iconst (pc2 := 26) (v := (-1)) dX12_row_25 rfl ab_k_iconst_m1 ?_
    cases Option.some.inj hf
    exact ab_retI dX12_row_26 (Or.inl rfl) (Nat.le_refl _) (Nat.le_refl _) ⟨rfl, rfl⟩
  · refine ab_iload_n (pc2 := 8) dX12_row_7 rfl rfl ?_
    refine ab_i2l (pc2 := 9) dX12_row_8 rfl ?_
    refine ab_lconst (pc2 := 10) (v := 0) dX12_row_9 rfl rfl ?_
    refine ab_ldc2 (pc2 := 13) (v := 2) dX12_row_10 rfl tw_143 ?_
    obtain ⟨w4, ew4, hf⟩ := ab_bind hf
    refine ab_callS (pc2 := 16) (st := []) (m_X12_isIn (d := (d + 1)) ew4) mf_X12_isIn tw_101 tw_102 dX12_row_13 rfl (by omega) (Nat.le_refl _) (Nat.le_refl _) rfl (Nat.le_of_ble_eq_true rfl) (ab_kPb fun z5 => ?_)
    refine ab_if_eq (tgt := 25) (pc2 := 19) dX12_row_16 (by decide) rfl hf (fun c6 hf => ?_) (fun c6 hf => ?_)
    · refine ab_iconst (pc2 := 26) (v := (-1)) dX12_row_25 rfl ab_k_iconst_m1 ?_
      cases Option.some.inj hf
      exact ab_retI dX12_row_26 (Or.inl rfl) (Nat.le_refl _) (Nat.le_refl _) ⟨rfl, rfl⟩
    · refine ab_iload_n (pc2 := 20) dX12_row_19 rfl rfl ?_
      refine ab_bipush (pc2 := 22) (v := 100) dX12_row_20 rfl ab_k_bipush_100 ?_
      refine ab_icmp_le (tgt := 27) (pc2 := 25) dX12_row_22 (by decide) rfl hf (fun c7 hf => ?_) (fun c7 hf => ?_)
      · refine ab_iload_n (pc2 := 28) dX12_row_27 rfl rfl ?_
        refine ab_if_ge (tgt := 34) (pc2 := 31) dX12_row_28 (by decide) rfl hf (fun c8 hf => ?_) (fun c8 hf => ?_)
        · refine ab_aload_n (x := _) (pc2 := 35) dX12_row_34 rfl rfl ?_
          refine ab_getR (pc2 := 38) rfl ht0 fa_X12_19 dX12_row_35 rfl (fun T9 => ?_)
          refine ab_iload_n (pc2 := 39) dX12_row_38 rfl rfl ?_
          refine ab_iconst (pc2 := 40) (v := 2) dX12_row_39 rfl ab_k_iconst_2 ?_
          obtain ⟨q10, hq10, hf⟩ := ab_bind hf
          obtain ⟨b11, hf⟩ := ab_guard hf
          obtain ⟨h12, eh12, hf⟩ := ab_let_x hf
          refine ab_iast (pc2 := 41) hq10 (T9 q10 hq10) (ab_in_vp b11) dX12_row_40 rfl ?_
          refine ab_topH eh12 ?_
          refine ab_aload_n (x := _) (pc2 := 42) dX12_row_41 rfl rfl ?_
          refine ab_getR (pc2 := 45) rfl ht0 fa_X12_22 dX12_row_42 rfl (fun T13 => ?_)
          refine ab_iload_n (pc2 := 46) dX12_row_45 rfl rfl ?_
          refine ab_iload_n (pc2 := 47) dX12_row_46 rfl rfl ?_
          obtain ⟨q14, hq14, hf⟩ := ab_bind hf
          obtain ⟨b15, hf⟩ := ab_guard hf
          obtain ⟨h16, eh16, hf⟩ := ab_let_x hf
          refine ab_iast (pc2 := 48) hq14 (T13 q14 hq14) (ab_in_vp b15) dX12_row_47 rfl ?_
          refine ab_topH eh16 ?_
          refine ab_aload_n (x := _) (pc2 := 49) dX12_row_48 rfl rfl ?_
          refine ab_getR (pc2 := 52) rfl ht0 fa_X12_25 dX12_row_49 rfl (fun T17 => ?_)
          refine ab_iload_n (pc2 := 53) dX12_row_52 rfl rfl ?_
          refine ab_iload_n (pc2 := 54) dX12_row_53 rfl rfl ?_
          obtain ⟨q18, hq18, hf⟩ := ab_bind hf
          obtain ⟨b19, hf⟩ := ab_guard hf
          obtain ⟨h20, eh20, hf⟩ := ab_let_x hf
          refine ab_iast (pc2 := 55) hq18 (T17 q18 hq18) (ab_in_vp b19) dX12_row_54 rfl ?_
          refine ab_topH eh20 ?_
          refine ab_iconst (pc2 := 56) (v := 0) dX12_row_55 rfl ab_k_iconst_0 ?_
          refine ab_istore (pc2 := 58) (lo2 := [some (va_rf _), some (.int _), some (.int _), some (.int _), some (.int _)]) dX12_row_56 rfl (by decide) rfl ?_
          exact ab_weak (x_X12_row_l58 ht0 _ _ _ _ hf) (ab_leS (ab_leS (ab_leN (ab_leN (ab_leS ab_le0)))))
        · refine ab_bipush (pc2 := 33) (v := (-14)) dX12_row_31 rfl ab_k_bipush_m14 ?_
          cases Option.some.inj hf
          exact ab_retI dX12_row_33 (Or.inl rfl) (Nat.le_refl _) (Nat.le_refl _) ⟨rfl, rfl⟩
      · refine ab_iconst (pc2 := 26) (v := (-1)) dX12_row_25 rfl ab_k_iconst_m1 ?_
        cases Option.some.inj hf
        exact ab_retI dX12_row_26 (Or.inl rfl) (Nat.le_refl _) (Nat.le_refl _) ⟨rfl, rfl⟩
set_option maxHeartbeats 4000000 in
set_option maxRecDepth 100000 in
theorem m_X12_row {d : Nat} {t0 : Nat} {i1 : Int32} {i2 : Int32} {i3 : Int32} {h : ab_HP} {r : (Int32 × ab_HP)} (ht0 : (ab_shp t0).1 = 5) (hf : f_X12_row t0 i1 i2 i3 h = some r) : ab_MET mX12_row (d + 2) 0 0 [va_rf (some t0), .int i1, .int i2, .int i3] h (ab_Pi r.1 r.2) := ab_met (by decide +kernel) (by decide +kernel) (Nat.le_of_ble_eq_true rfl) rfl (x_X12_row ht0 hf)
set_option maxHeartbeats 4000000 in
set_option maxRecDepth 100000 in
theorem x_X12_put {d : Nat} {t0 : Nat} {i1 : Int32} {i2 : Int32} {i3 : Int32} {h : ab_HP} {r : (Int32 × ab_HP)} (ht0 : (ab_shp t0).1 = 5) (hf : f_X12_put t0 i1 i2 i3 h = some r) : ab_T mX12_put (d + 3) 0 0 0 0 0 [some (va_rf (some t0)), some (.int i1), some (.int i2), some (.int i3), none] [] h (ab_Pi r.1 r.2) := by
  unfold f_X12_put at hf
  refine ab_aload_n (x := _) (pc2 := 1) dX12_put_0 rfl rfl ?_
  refine ab_iload_n (pc2 := 2) dX12_put_1 rfl rfl ?_
  refine ab_iconst (pc2 := 3) (v := (-1)) dX12_put_2 rfl ab_k_iconst_m1 ?_
  obtain ⟨w1, ew1, hf⟩ := ab_bind hf
  refine ab_callV (pc2 := 6) (st := []) rfl ht0 (by decide) (m_X12_wrongRow (d := (d + 0)) ht0 ew1) mf_X12_wrongRow tw_122 tw_121 ts_X12_wrongRow (Or.inl (by decide +kernel)) dX12_put_3 rfl (by omega) (Nat.le_refl _) (Nat.le_refl _) rfl (Nat.le_of_ble_eq_true rfl) (ab_kPi ?_)
  refine ab_istore (pc2 := 8) (lo2 := [some (va_rf _), some (.int _), some (.int _), some (.int _), some (.int _)]) dX12_put_6 rfl (by decide) rfl ?_
  refine ab_iload (pc2 := 10) dX12_put_8 rfl rfl ?_
  refine ab_if_eq (tgt := 16) (pc2 := 13) dX12_put_10 (by decide) rfl hf (fun c2 hf => ?_) (fun c2 hf => ?_)
  · refine ab_iload_n (pc2 := 17) dX12_put_16 rfl rfl ?_
    refine ab_i2l (pc2 := 18) dX12_put_17 rfl ?_
    refine ab_lconst (pc2 := 19) (v := 0) dX12_put_18 rfl rfl ?_
    refine ab_aload_n (x := _) (pc2 := 20) dX12_put_19 rfl rfl ?_
    refine ab_getR (pc2 := 23) rfl ht0 fa_X12_25 dX12_put_20 rfl (fun T3 => ?_)
    refine ab_iload_n (pc2 := 24) dX12_put_23 rfl rfl ?_
    obtain ⟨q4, hq4, hf⟩ := ab_bind hf
    obtain ⟨b5, hf⟩ := ab_guard hf
    refine ab_iald (pc2 := 25) hq4 (T3 q4 hq4) (ab_in_vp b5) dX12_put_24 rfl ?_
    refine ab_iconst (pc2 := 26) (v := 1) dX12_put_25 rfl ab_k_iconst_1 ?_
    refine ab_isub (pc2 := 27) dX12_put_26 rfl ?_
    refine ab_i2l (pc2 := 28) dX12_put_27 rfl ?_
    obtain ⟨w6, ew6, hf⟩ := ab_bind hf
    refine ab_callS (pc2 := 31) (st := []) (m_X12_isIn (d := (d + 2)) ew6) mf_X12_isIn tw_101 tw_102 dX12_put_28 rfl (by omega) (Nat.le_refl _) (Nat.le_refl _) rfl (Nat.le_of_ble_eq_true rfl) (ab_kPb fun z7 => ?_)
    refine ab_if_ne (tgt := 37) (pc2 := 34) dX12_put_31 (by decide) rfl hf (fun c8 hf => ?_) (fun c8 hf => ?_)
    · refine ab_aload_n (x := _) (pc2 := 38) dX12_put_37 rfl rfl ?_
      refine ab_getR (pc2 := 41) rfl ht0 fa_X12_28 dX12_put_38 rfl (fun T9 => ?_)
      refine ab_bipush (pc2 := 43) (v := 100) dX12_put_41 rfl ab_k_bipush_100 ?_
      refine ab_iload_n (pc2 := 44) dX12_put_43 rfl rfl ?_
      refine ab_imul (pc2 := 45) dX12_put_44 rfl ?_
      refine ab_iload_n (pc2 := 46) dX12_put_45 rfl rfl ?_
      refine ab_iadd (pc2 := 47) dX12_put_46 rfl ?_
      refine ab_aload_n (x := _) (pc2 := 48) dX12_put_47 rfl rfl ?_
      refine ab_getR (pc2 := 51) rfl ht0 fa_X12_22 dX12_put_48 rfl (fun T10 => ?_)
      refine ab_iload_n (pc2 := 52) dX12_put_51 rfl rfl ?_
      obtain ⟨q11, hq11, hf⟩ := ab_bind hf
      obtain ⟨b12, hf⟩ := ab_guard hf
      refine ab_iald (pc2 := 53) hq11 (T10 q11 hq11) (ab_in_vp b12) dX12_put_52 rfl ?_
      refine ab_if_ne (tgt := 61) (pc2 := 56) dX12_put_53 (by decide) rfl hf (fun c13 hf => ?_) (fun c13 hf => ?_)
      · refine ab_aload_n (x := _) (pc2 := 62) dX12_put_61 rfl rfl ?_
        refine ab_getR (pc2 := 65) rfl ht0 fa_X12_22 dX12_put_62 rfl (fun T14 => ?_)
        refine ab_iload_n (pc2 := 66) dX12_put_65 rfl rfl ?_
        obtain ⟨q15, hq15, hf⟩ := ab_bind hf
        obtain ⟨b16, hf⟩ := ab_guard hf
        refine ab_iald (pc2 := 67) hq15 (T14 q15 hq15) (ab_in_vp b16) dX12_put_66 rfl ?_
        refine ab_iconst (pc2 := 68) (v := 1) dX12_put_67 rfl ab_k_iconst_1 ?_
        refine ab_icmp_ne (tgt := 76) (pc2 := 71) dX12_put_68 (by decide) rfl hf (fun c17 hf => ?_) (fun c17 hf => ?_)
        · refine ab_iload_n (pc2 := 77) dX12_put_76 rfl rfl ?_
          obtain ⟨q18, hq18, hf⟩ := ab_bind hf
          obtain ⟨b19, hf⟩ := ab_guard hf
          obtain ⟨h20, eh20, hf⟩ := ab_let_x hf
          refine ab_iast (pc2 := 78) hq18 (T9 q18 hq18) (ab_in_vp b19) dX12_put_77 rfl ?_
          refine ab_topH eh20 ?_
          refine ab_iconst (pc2 := 79) (v := 0) dX12_put_78 rfl ab_k_iconst_0 ?_
          cases Option.some.inj hf
          exact ab_retI dX12_put_79 (Or.inl rfl) (Nat.le_refl _) (Nat.le_refl _) ⟨rfl, rfl⟩
        · refine ab_iload_n (pc2 := 72) dX12_put_71 rfl rfl ?_
          refine ab_i2s (pc2 := 73) dX12_put_72 rfl ?_
          refine ab_goto (tgt := 77) dX12_put_73 (by decide) ?_
          obtain ⟨q21, hq21, hf⟩ := ab_bind hf
          obtain ⟨b22, hf⟩ := ab_guard hf
          obtain ⟨h23, eh23, hf⟩ := ab_let_x hf
          refine ab_iast (pc2 := 78) hq21 (T9 q21 hq21) (ab_in_vp b22) dX12_put_77 rfl ?_
          refine ab_topH eh23 ?_
          refine ab_iconst (pc2 := 79) (v := 0) dX12_put_78 rfl ab_k_iconst_0 ?_
          cases Option.some.inj hf
          exact ab_retI dX12_put_79 (Or.inl rfl) (Nat.le_refl _) (Nat.le_refl _) ⟨rfl, rfl⟩
      · refine ab_iload_n (pc2 := 57) dX12_put_56 rfl rfl ?_
        refine ab_i2b (pc2 := 58) dX12_put_57 rfl ?_
        refine ab_goto (tgt := 77) dX12_put_58 (by decide) ?_
        obtain ⟨q24, hq24, hf⟩ := ab_bind hf
        obtain ⟨b25, hf⟩ := ab_guard hf
        obtain ⟨h26, eh26, hf⟩ := ab_let_x hf
        refine ab_iast (pc2 := 78) hq24 (T9 q24 hq24) (ab_in_vp b25) dX12_put_77 rfl ?_
        refine ab_topH eh26 ?_
        refine ab_iconst (pc2 := 79) (v := 0) dX12_put_78 rfl ab_k_iconst_0 ?_
        cases Option.some.inj hf
        exact ab_retI dX12_put_79 (Or.inl rfl) (Nat.le_refl _) (Nat.le_refl _) ⟨rfl, rfl⟩
    · refine ab_bipush (pc2 := 36) (v := (-13)) dX12_put_34 rfl ab_k_bipush_m13 ?_
      cases Option.some.inj hf
      exact ab_retI dX12_put_36 (Or.inl rfl) (Nat.le_refl _) (Nat.le_refl _) ⟨rfl, rfl⟩
  · refine ab_iload (pc2 := 15) dX12_put_13 rfl rfl ?_
    cases Option.some.inj hf
    exact ab_retI dX12_put_15 (Or.inl rfl) (Nat.le_refl _) (Nat.le_refl _) ⟨rfl, rfl⟩
set_option maxHeartbeats 4000000 in
set_option maxRecDepth 100000 in
theorem m_X12_put {d : Nat} {t0 : Nat} {i1 : Int32} {i2 : Int32} {i3 : Int32} {h : ab_HP} {r : (Int32 × ab_HP)} (ht0 : (ab_shp t0).1 = 5) (hf : f_X12_put t0 i1 i2 i3 h = some r) : ab_MET mX12_put (d + 3) 0 0 [va_rf (some t0), .int i1, .int i2, .int i3] h (ab_Pi r.1 r.2) := ab_met (by decide +kernel) (by decide +kernel) (Nat.le_of_ble_eq_true rfl) rfl (x_X12_put ht0 hf)
