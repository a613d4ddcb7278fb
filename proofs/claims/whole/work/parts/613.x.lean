set_option maxHeartbeats 4000000 in
set_option maxRecDepth 100000 in
theorem x_X12_set {d : Nat} {t0 : Nat} {i1 : Int32} {i2 : Int32} {h : ab_HP} {r : (Int32 × ab_HP)} (ht0 : (ab_shp t0).1 = 5) (hf : f_X12_set t0 i1 i2 h = some r) : ab_T mX12_set (d + 1) 0 0 0 0 0 [some (va_rf (some t0)), some (.int i1), some (.int i2), none, none] [] h (ab_Pi r.1 r.2) := by
  unfold f_X12_set at hf
  refine ab_iload_n (pc2 := 1) dX12_set_0 rfl rfl ?_
  refine ab_i2l (pc2 := 2) dX12_set_1 rfl ?_
  refine ab_lconst (pc2 := 3) (v := 0) dX12_set_2 rfl rfl ?_
  refine ab_ldc2 (pc2 := 6) (v := 2) dX12_set_3 rfl tw_143 ?_
  obtain ⟨w1, ew1, hf⟩ := ab_bind hf
  refine ab_callS (pc2 := 9) (st := []) (m_X12_isIn (d := (d + 0)) ew1) mf_X12_isIn tw_101 tw_102 dX12_set_6 rfl (by omega) (Nat.le_refl _) (Nat.le_refl _) rfl (Nat.le_of_ble_eq_true rfl) (ab_kPb fun z2 => ?_)
  refine ab_if_eq (tgt := 45) (pc2 := 12) dX12_set_9 (by decide) rfl hf (fun c3 hf => ?_) (fun c3 hf => ?_)
  · refine ab_iconst (pc2 := 46) (v := (-1)) dX12_set_45 rfl ab_k_iconst_m1 ?_
    cases Option.some.inj hf
    exact ab_retI dX12_set_46 (Or.inl rfl) (Nat.le_refl _) (Nat.le_refl _) ⟨rfl, rfl⟩
  · refine ab_iload_n (pc2 := 13) dX12_set_12 rfl rfl ?_
    refine ab_i2l (pc2 := 14) dX12_set_13 rfl ?_
    refine ab_lconst (pc2 := 15) (v := 0) dX12_set_14 rfl rfl ?_
    refine ab_iload_n (pc2 := 16) dX12_set_15 rfl rfl ?_
    refine ab_if_ne (tgt := 25) (pc2 := 19) dX12_set_16 (by decide) rfl hf (fun c4 hf => ?_) (fun c4 hf => ?_)
    · refine ab_iload_n (pc2 := 26) dX12_set_25 rfl rfl ?_
      refine ab_iconst (pc2 := 27) (v := 1) dX12_set_26 rfl ab_k_iconst_1 ?_
      refine ab_icmp_ne (tgt := 36) (pc2 := 30) dX12_set_27 (by decide) rfl hf (fun c5 hf => ?_) (fun c5 hf => ?_)
      · refine ab_ldc2 (pc2 := 39) (v := 9999) dX12_set_36 rfl tw_144 ?_
        obtain ⟨w6, ew6, hf⟩ := ab_bind hf
        refine ab_callS (pc2 := 42) (st := []) (m_X12_isIn (d := (d + 0)) ew6) mf_X12_isIn tw_101 tw_102 dX12_set_39 rfl (by omega) (Nat.le_refl _) (Nat.le_refl _) rfl (Nat.le_of_ble_eq_true rfl) (ab_kPb fun z7 => ?_)
        refine ab_if_ne (tgt := 47) (pc2 := 45) dX12_set_42 (by decide) rfl hf (fun c8 hf => ?_) (fun c8 hf => ?_)
        · refine ab_iload_n (pc2 := 48) dX12_set_47 rfl rfl ?_
          refine ab_if_ne (tgt := 55) (pc2 := 51) dX12_set_48 (by decide) rfl hf (fun c9 hf => ?_) (fun c9 hf => ?_)
          · refine ab_iload_n (pc2 := 56) dX12_set_55 rfl rfl ?_
            refine ab_iconst (pc2 := 57) (v := 1) dX12_set_56 rfl ab_k_iconst_1 ?_
            refine ab_icmp_ne (tgt := 64) (pc2 := 60) dX12_set_57 (by decide) rfl hf (fun c10 hf => ?_) (fun c10 hf => ?_)
            · refine ab_iconst (pc2 := 65) (v := 1) dX12_set_64 rfl ab_k_iconst_1 ?_
              refine ab_istore_n (pc2 := 66) (lo2 := [some (va_rf _), some (.int _), some (.int _), some (.int _), none]) dX12_set_65 rfl (by decide) rfl ?_
              refine ab_aload_n (x := _) (pc2 := 67) dX12_set_66 rfl rfl ?_
              refine ab_getR (pc2 := 70) rfl ht0 fa_X12_9 dX12_set_67 rfl (fun T11 => ?_)
              refine ab_iload_n (pc2 := 71) dX12_set_70 rfl rfl ?_
              obtain ⟨q12, hq12, hf⟩ := ab_bind hf
              obtain ⟨b13, hf⟩ := ab_guard hf
              refine ab_iald (pc2 := 72) hq12 (T11 q12 hq12) (ab_in_vp b13) dX12_set_71 rfl ?_
              refine ab_istore (pc2 := 74) (lo2 := [some (va_rf _), some (.int _), some (.int _), some (.int _), some (.int _)]) dX12_set_72 rfl (by decide) rfl ?_
              refine ab_aload_n (x := _) (pc2 := 75) dX12_set_74 rfl rfl ?_
              refine ab_getR (pc2 := 78) rfl ht0 fa_X12_9 dX12_set_75 rfl (fun T14 => ?_)
              refine ab_iload_n (pc2 := 79) dX12_set_78 rfl rfl ?_
              refine ab_iload_n (pc2 := 80) dX12_set_79 rfl rfl ?_
              obtain ⟨q15, hq15, hf⟩ := ab_bind hf
              obtain ⟨b16, hf⟩ := ab_guard hf
              obtain ⟨h17, eh17, hf⟩ := ab_let_x hf
              refine ab_iast (pc2 := 81) hq15 (T14 q15 hq15) (ab_in_vp b16) dX12_set_80 rfl ?_
              refine ab_topH eh17 ?_
              refine ab_iload (pc2 := 83) dX12_set_81 rfl rfl ?_
              cases Option.some.inj hf
              exact ab_retI dX12_set_83 (Or.inl rfl) (Nat.le_refl _) (Nat.le_refl _) ⟨rfl, rfl⟩
            · refine ab_iconst (pc2 := 61) (v := 4) dX12_set_60 rfl ab_k_iconst_4 ?_
              refine ab_goto (tgt := 65) dX12_set_61 (by decide) ?_
              refine ab_istore_n (pc2 := 66) (lo2 := [some (va_rf _), some (.int _), some (.int _), some (.int _), none]) dX12_set_65 rfl (by decide) rfl ?_
              refine ab_aload_n (x := _) (pc2 := 67) dX12_set_66 rfl rfl ?_
              refine ab_getR (pc2 := 70) rfl ht0 fa_X12_9 dX12_set_67 rfl (fun T18 => ?_)
              refine ab_iload_n (pc2 := 71) dX12_set_70 rfl rfl ?_
              obtain ⟨q19, hq19, hf⟩ := ab_bind hf
              obtain ⟨b20, hf⟩ := ab_guard hf
              refine ab_iald (pc2 := 72) hq19 (T18 q19 hq19) (ab_in_vp b20) dX12_set_71 rfl ?_
              refine ab_istore (pc2 := 74) (lo2 := [some (va_rf _), some (.int _), some (.int _), some (.int _), some (.int _)]) dX12_set_72 rfl (by decide) rfl ?_
              refine ab_aload_n (x := _) (pc2 := 75) dX12_set_74 rfl rfl ?_
              refine ab_getR (pc2 := 78) rfl ht0 fa_X12_9 dX12_set_75 rfl (fun T21 => ?_)
              refine ab_iload_n (pc2 := 79) dX12_set_78 rfl rfl ?_
              refine ab_iload_n (pc2 := 80) dX12_set_79 rfl rfl ?_
              obtain ⟨q22, hq22, hf⟩ := ab_bind hf
              obtain ⟨b23, hf⟩ := ab_guard hf
              obtain ⟨h24, eh24, hf⟩ := ab_let_x hf
              refine ab_iast (pc2 := 81) hq22 (T21 q22 hq22) (ab_in_vp b23) dX12_set_80 rfl ?_
              refine ab_topH eh24 ?_
              refine ab_iload (pc2 := 83) dX12_set_81 rfl rfl ?_
              cases Option.some.inj hf
              exact ab_retI dX12_set_83 (Or.inl rfl) (Nat.le_refl _) (Nat.le_refl _) ⟨rfl, rfl⟩
          · refine ab_iconst (pc2 := 52) (v := 3) dX12_set_51 rfl ab_k_iconst_3 ?_
            refine ab_goto (tgt := 65) dX12_set_52 (by decide) ?_
            refine ab_istore_n (pc2 := 66) (lo2 := [some (va_rf _), some (.int _), some (.int _), some (.int _), none]) dX12_set_65 rfl (by decide) rfl ?_
            refine ab_aload_n (x := _) (pc2 := 67) dX12_set_66 rfl rfl ?_
            refine ab_getR (pc2 := 70) rfl ht0 fa_X12_9 dX12_set_67 rfl (fun T25 => ?_)
            refine ab_iload_n (pc2 := 71) dX12_set_70 rfl rfl ?_
            obtain ⟨q26, hq26, hf⟩ := ab_bind hf
            obtain ⟨b27, hf⟩ := ab_guard hf
            refine ab_iald (pc2 := 72) hq26 (T25 q26 hq26) (ab_in_vp b27) dX12_set_71 rfl ?_
            refine ab_istore (pc2 := 74) (lo2 := [some (va_rf _), some (.int _), some (.int _), some (.int _), some (.int _)]) dX12_set_72 rfl (by decide) rfl ?_
            refine ab_aload_n (x := _) (pc2 := 75) dX12_set_74 rfl rfl ?_
            refine ab_getR (pc2 := 78) rfl ht0 fa_X12_9 dX12_set_75 rfl (fun T28 => ?_)
            refine ab_iload_n (pc2 := 79) dX12_set_78 rfl rfl ?_
            refine ab_iload_n (pc2 := 80) dX12_set_79 rfl rfl ?_
            obtain ⟨q29, hq29, hf⟩ := ab_bind hf
            obtain ⟨b30, hf⟩ := ab_guard hf
            obtain ⟨h31, eh31, hf⟩ := ab_let_x hf
            refine ab_iast (pc2 := 81) hq29 (T28 q29 hq29) (ab_in_vp b30) dX12_set_80 rfl ?_
            refine ab_topH eh31 ?_
            refine ab_iload (pc2 := 83) dX12_set_81 rfl rfl ?_
            cases Option.some.inj hf
            exact ab_retI dX12_set_83 (Or.inl rfl) (Nat.le_refl _) (Nat.le_refl _) ⟨rfl, rfl⟩
        · refine ab_iconst (pc2 := 46) (v := (-1)) dX12_set_45 rfl ab_k_iconst_m1 ?_
          cases Option.some.inj hf
          exact ab_retI dX12_set_46 (Or.inl rfl) (Nat.le_refl _) (Nat.le_refl _) ⟨rfl, rfl⟩
      · refine ab_ldc2 (pc2 := 33) (v := 99) dX12_set_30 rfl tw_145 ?_
        refine ab_goto (tgt := 39) dX12_set_33 (by decide) ?_
        obtain ⟨w32, ew32, hf⟩ := ab_bind hf
        refine ab_callS (pc2 := 42) (st := []) (m_X12_isIn (d := (d + 0)) ew32) mf_X12_isIn tw_101 tw_102 dX12_set_39 rfl (by omega) (Nat.le_refl _) (Nat.le_refl _) rfl (Nat.le_of_ble_eq_true rfl) (ab_kPb fun z33 => ?_)
        refine ab_if_ne (tgt := 47) (pc2 := 45) dX12_set_42 (by decide) rfl hf (fun c34 hf => ?_) (fun c34 hf => ?_)
        · refine ab_iload_n (pc2 := 48) dX12_set_47 rfl rfl ?_
          refine ab_if_ne (tgt := 55) (pc2 := 51) dX12_set_48 (by decide) rfl hf (fun c35 hf => ?_) (fun c35 hf => ?_)
          · refine ab_iload_n (pc2 := 56) dX12_set_55 rfl rfl ?_
            refine ab_iconst (pc2 := 57) (v := 1) dX12_set_56 rfl ab_k_iconst_1 ?_
            refine ab_icmp_ne (tgt := 64) (pc2 := 60) dX12_set_57 (by decide) rfl hf (fun c36 hf => ?_) (fun c36 hf => ?_)
            · refine ab_iconst (pc2 := 65) (v := 1) dX12_set_64 rfl ab_k_iconst_1 ?_
              refine ab_istore_n (pc2 := 66) (lo2 := [some (va_rf _), some (.int _), some (.int _), some (.int _), none]) dX12_set_65 rfl (by decide) rfl ?_
              refine ab_aload_n (x := _) (pc2 := 67) dX12_set_66 rfl rfl ?_
              refine ab_getR (pc2 := 70) rfl ht0 fa_X12_9 dX12_set_67 rfl (fun T37 => ?_)
              refine ab_iload_n (pc2 := 71) dX12_set_70 rfl rfl ?_
              obtain ⟨q38, hq38, hf⟩ := ab_bind hf
              obtain ⟨b39, hf⟩ := ab_guard hf
              refine ab_iald (pc2 := 72) hq38 (T37 q38 hq38) (ab_in_vp b39) dX12_set_71 rfl ?_
              refine ab_istore (pc2 := 74) (lo2 := [some (va_rf _), some (.int _), some (.int _), some (.int _), some (.int _)]) dX12_set_72 rfl (by decide) rfl ?_
              refine ab_aload_n (x := _) (pc2 := 75) dX12_set_74 rfl rfl ?_
              refine ab_getR (pc2 := 78) rfl ht0 fa_X12_9 dX12_set_75 rfl (fun T40 => ?_)
              refine ab_iload_n (pc2 := 79) dX12_set_78 rfl rfl ?_
              refine ab_iload_n (pc2 := 80) dX12_set_79 rfl rfl ?_
              obtain ⟨q41, hq41, hf⟩ := ab_bind hf
              obtain ⟨b42, hf⟩ := ab_guard hf
              obtain ⟨h43, eh43, hf⟩ := ab_let_x hf
              refine ab_iast (pc2 := 81) hq41 (T40 q41 hq41) (ab_in_vp b42) dX12_set_80 rfl ?_
              refine ab_topH eh43 ?_
              refine ab_iload (pc2 := 83) dX12_set_81 rfl rfl ?_
              cases Option.some.inj hf
              exact ab_retI dX12_set_83 (Or.inl rfl) (Nat.le_refl _) (Nat.le_refl _) ⟨rfl, rfl⟩
            · refine ab_iconst (pc2 := 61) (v := 4) dX12_set_60 rfl ab_k_iconst_4 ?_
              refine ab_goto (tgt := 65) dX12_set_61 (by decide) ?_
              refine ab_istore_n (pc2 := 66) (lo2 := [some (va_rf _), some (.int _), some (.int _), some (.int _), none]) dX12_set_65 rfl (by decide) rfl ?_
              refine ab_aload_n (x := _) (pc2 := 67) dX12_set_66 rfl rfl ?_
              refine ab_getR (pc2 := 70) rfl ht0 fa_X12_9 dX12_set_67 rfl (fun T44 => ?_)
              refine ab_iload_n (pc2 := 71) dX12_set_70 rfl rfl ?_
              obtain ⟨q45, hq45, hf⟩ := ab_bind hf
              obtain ⟨b46, hf⟩ := ab_guard hf
              refine ab_iald (pc2 := 72) hq45 (T44 q45 hq45) (ab_in_vp b46) dX12_set_71 rfl ?_
              refine ab_istore (pc2 := 74) (lo2 := [some (va_rf _), some (.int _), some (.int _), some (.int _), some (.int _)]) dX12_set_72 rfl (by decide) rfl ?_
              refine ab_aload_n (x := _) (pc2 := 75) dX12_set_74 rfl rfl ?_
              refine ab_getR (pc2 := 78) rfl ht0 fa_X12_9 dX12_set_75 rfl (fun T47 => ?_)
              refine ab_iload_n (pc2 := 79) dX12_set_78 rfl rfl ?_
              refine ab_iload_n (pc2 := 80) dX12_set_79 rfl rfl ?_
              obtain ⟨q48, hq48, hf⟩ := ab_bind hf
              obtain ⟨b49, hf⟩ := ab_guard hf
              obtain ⟨h50, eh50, hf⟩ := ab_let_x hf
              refine ab_iast (pc2 := 81) hq48 (T47 q48 hq48) (ab_in_vp b49) dX12_set_80 rfl ?_
              refine ab_topH eh50 ?_
              refine ab_iload (pc2 := 83) dX12_set_81 rfl rfl ?_
              cases Option.some.inj hf
              exact ab_retI dX12_set_83 (Or.inl rfl) (Nat.le_refl _) (Nat.le_refl _) ⟨rfl, rfl⟩
          · refine ab_iconst (pc2 := 52) (v := 3) dX12_set_51 rfl ab_k_iconst_3 ?_
            refine ab_goto (tgt := 65) dX12_set_52 (by decide) ?_
            refine ab_istore_n (pc2 := 66) (lo2 := [some (va_rf _), some (.int _), some (.int _), some (.int _), none]) dX12_set_65 rfl (by decide) rfl ?_
            refine ab_aload_n (x := _) (pc2 := 67) dX12_set_66 rfl rfl ?_
            refine ab_getR (pc2 := 70) rfl ht0 fa_X12_9 dX12_set_67 rfl (fun T51 => ?_)
            refine ab_iload_n (pc2 := 71) dX12_set_70 rfl rfl ?_
            obtain ⟨q52, hq52, hf⟩ := ab_bind hf
            obtain ⟨b53, hf⟩ := ab_guard hf
            refine ab_iald (pc2 := 72) hq52 (T51 q52 hq52) (ab_in_vp b53) dX12_set_71 rfl ?_
            refine ab_istore (pc2 := 74) (lo2 := [some (va_rf _), some (.int _), some (.int _), some (.int _), some (.int _)]) dX12_set_72 rfl (by decide) rfl ?_
            refine ab_aload_n (x := _) (pc2 := 75) dX12_set_74 rfl rfl ?_
            refine ab_getR (pc2 := 78) rfl ht0 fa_X12_9 dX12_set_75 rfl (fun T54 => ?_)
            refine ab_iload_n (pc2 := 79) dX12_set_78 rfl rfl ?_
            refine ab_iload_n (pc2 := 80) dX12_set_79 rfl rfl ?_
            obtain ⟨q55, hq55, hf⟩ := ab_bind hf
            obtain ⟨b56, hf⟩ := ab_guard hf
            obtain ⟨h57, eh57, hf⟩ := ab_let_x hf
            refine ab_iast (pc2 := 81) hq55 (T54 q55 hq55) (ab_in_vp b56) dX12_set_80 rfl ?_
            refine ab_topH eh57 ?_
            refine ab_iload (pc2 := 83) dX12_set_81 rfl rfl ?_
            cases Option.some.inj hf
            exact ab_retI dX12_set_83 (Or.inl rfl) (Nat.le_refl _) (Nat.le_refl _) ⟨rfl, rfl⟩
        · refine ab_iconst (pc2 := 46) (v := (-1)) dX12_set_45 rfl ab_k_iconst_m1 ?_
          cases Option.some.inj hf
          exact ab_retI dX12_set_46 (Or.inl rfl) (Nat.le_refl _) (Nat.le_refl _) ⟨rfl, rfl⟩
    · refine ab_ldc2 (pc2 := 22) (v := 2) dX12_set_19 rfl tw_143 ?_
      refine ab_goto (tgt := 39) dX12_set_22 (by decide) ?_
      obtain ⟨w58, ew58, hf⟩ := ab_bind hf
      refine ab_callS (pc2 := 42) (st := []) (m_X12_isIn (d := (d + 0)) ew58) mf_X12_isIn tw_101 tw_102 dX12_set_39 rfl (by omega) (Nat.le_refl _) (Nat.le_refl _) rfl (Nat.le_of_ble_eq_true rfl) (ab_kPb fun z59 => ?_)
      refine ab_if_ne (tgt := 47) (pc2 := 45) dX12_set_42 (by decide) rfl hf (fun c60 hf => ?_) (fun c60 hf => ?_)
      · refine ab_iload_n (pc2 := 48) dX12_set_47 rfl rfl ?_
        refine ab_if_ne (tgt := 55) (pc2 := 51) dX12_set_48 (by decide) rfl hf (fun c61 hf => ?_) (fun c61 hf => ?_)
        · refine ab_iload_n (pc2 := 56) dX12_set_55 rfl rfl ?_
          refine ab_iconst (pc2 := 57) (v := 1) dX12_set_56 rfl ab_k_iconst_1 ?_
          refine ab_icmp_ne (tgt := 64) (pc2 := 60) dX12_set_57 (by decide) rfl hf (fun c62 hf => ?_) (fun c62 hf => ?_)
          · refine ab_iconst (pc2 := 65) (v := 1) dX12_set_64 rfl ab_k_iconst_1 ?_
            refine ab_istore_n (pc2 := 66) (lo2 := [some (va_rf _), some (.int _), some (.int _), some (.int _), none]) dX12_set_65 rfl (by decide) rfl ?_
            refine ab_aload_n (x := _) (pc2 := 67) dX12_set_66 rfl rfl ?_
            refine ab_getR (pc2 := 70) rfl ht0 fa_X12_9 dX12_set_67 rfl (fun T63 => ?_)
            refine ab_iload_n (pc2 := 71) dX12_set_70 rfl rfl ?_
            obtain ⟨q64, hq64, hf⟩ := ab_bind hf
            obtain ⟨b65, hf⟩ := ab_guard hf
            refine ab_iald (pc2 := 72) hq64 (T63 q64 hq64) (ab_in_vp b65) dX12_set_71 rfl ?_
            refine ab_istore (pc2 := 74) (lo2 := [some (va_rf _), some (.int _), some (.int _), some (.int _), some (.int _)]) dX12_set_72 rfl (by decide) rfl ?_
            refine ab_aload_n (x := _) (pc2 := 75) dX12_set_74 rfl rfl ?_
            refine ab_getR (pc2 := 78) rfl ht0 fa_X12_9 dX12_set_75 rfl (fun T66 => ?_)
            refine ab_iload_n (pc2 := 79) dX12_set_78 rfl rfl ?_
            refine ab_iload_n (pc2 := 80) dX12_set_79 rfl rfl ?_
            obtain ⟨q67, hq67, hf⟩ := ab_bind hf
            obtain ⟨b68, hf⟩ := ab_guard hf
            obtain ⟨h69, eh69, hf⟩ := ab_let_x hf
            refine ab_iast (pc2 := 81) hq67 (T66 q67 hq67) (ab_in_vp b68) dX12_set_80 rfl ?_
            refine ab_topH eh69 ?_
            refine ab_iload (pc2 := 83) dX12_set_81 rfl rfl ?_
            cases Option.some.inj hf
            exact ab_retI dX12_set_83 (Or.inl rfl) (Nat.le_refl _) (Nat.le_refl _) ⟨rfl, rfl⟩
          · refine ab_iconst (pc2 := 61) (v := 4) dX12_set_60 rfl ab_k_iconst_4 ?_
            refine ab_goto (tgt := 65) dX12_set_61 (by decide) ?_
            refine ab_istore_n (pc2 := 66) (lo2 := [some (va_rf _), some (.int _), some (.int _), some (.int _), none]) dX12_set_65 rfl (by decide) rfl ?_
            refine ab_aload_n (x := _) (pc2 := 67) dX12_set_66 rfl rfl ?_
            refine ab_getR (pc2 := 70) rfl ht0 fa_X12_9 dX12_set_67 rfl (fun T70 => ?_)
            refine ab_iload_n (pc2 := 71) dX12_set_70 rfl rfl ?_
            obtain ⟨q71, hq71, hf⟩ := ab_bind hf
            obtain ⟨b72, hf⟩ := ab_guard hf
            refine ab_iald (pc2 := 72) hq71 (T70 q71 hq71) (ab_in_vp b72) dX12_set_71 rfl ?_
            refine ab_istore (pc2 := 74) (lo2 := [some (va_rf _), some (.int _), some (.int _), some (.int _), some (.int _)]) dX12_set_72 rfl (by decide) rfl ?_
            refine ab_aload_n (x := _) (pc2 := 75) dX12_set_74 rfl rfl ?_
            refine ab_getR (pc2 := 78) rfl ht0 fa_X12_9 dX12_set_75 rfl (fun T73 => ?_)
            refine ab_iload_n (pc2 := 79) dX12_set_78 rfl rfl ?_
            refine ab_iload_n (pc2 := 80) dX12_set_79 rfl rfl ?_
            obtain ⟨q74, hq74, hf⟩ := ab_bind hf
            obtain ⟨b75, hf⟩ := ab_guard hf
            obtain ⟨h76, eh76, hf⟩ := ab_let_x hf
            refine ab_iast (pc2 := 81) hq74 (T73 q74 hq74) (ab_in_vp b75) dX12_set_80 rfl ?_
            refine ab_topH eh76 ?_
            refine ab_iload (pc2 := 83) dX12_set_81 rfl rfl ?_
            cases Option.some.inj hf
            exact ab_retI dX12_set_83 (Or.inl rfl) (Nat.le_refl _) (Nat.le_refl _) ⟨rfl, rfl⟩
        · refine ab_iconst (pc2 := 52) (v := 3) dX12_set_51 rfl ab_k_iconst_3 ?_
          refine ab_goto (tgt := 65) dX12_set_52 (by decide) ?_
          refine ab_istore_n (pc2 := 66) (lo2 := [some (va_rf _), some (.int _), some (.int _), some (.int _), none]) dX12_set_65 rfl (by decide) rfl ?_
          refine ab_aload_n (x := _) (pc2 := 67) dX12_set_66 rfl rfl ?_
          refine ab_getR (pc2 := 70) rfl ht0 fa_X12_9 dX12_set_67 rfl (fun T77 => ?_)
          refine ab_iload_n (pc2 := 71) dX12_set_70 rfl rfl ?_
          obtain ⟨q78, hq78, hf⟩ := ab_bind hf
          obtain ⟨b79, hf⟩ := ab_guard hf
          refine ab_iald (pc2 := 72) hq78 (T77 q78 hq78) (ab_in_vp b79) dX12_set_71 rfl ?_
          refine ab_istore (pc2 := 74) (lo2 := [some (va_rf _), some (.int _), some (.int _), some (.int _), some (.int _)]) dX12_set_72 rfl (by decide) rfl ?_
          refine ab_aload_n (x := _) (pc2 := 75) dX12_set_74 rfl rfl ?_
          refine ab_getR (pc2 := 78) rfl ht0 fa_X12_9 dX12_set_75 rfl (fun T80 => ?_)
          refine ab_iload_n (pc2 := 79) dX12_set_78 rfl rfl ?_
          refine ab_iload_n (pc2 := 80) dX12_set_79 rfl rfl ?_
          obtain ⟨q81, hq81, hf⟩ := ab_bind hf
          obtain ⟨b82, hf⟩ := ab_guard hf
          obtain ⟨h83, eh83, hf⟩ := ab_let_x hf
          refine ab_iast (pc2 := 81) hq81 (T80 q81 hq81) (ab_in_vp b82) dX12_set_80 rfl ?_
          refine ab_topH eh83 ?_
          refine ab_iload (pc2 := 83) dX12_set_81 rfl rfl ?_
          cases Option.some.inj hf
          exact ab_retI dX12_set_83 (Or.inl rfl) (Nat.le_refl _) (Nat.le_refl _) ⟨rfl, rfl⟩
      · refine ab_iconst (pc2 := 46) (v := (-1)) dX12_set_45 rfl ab_k_iconst_m1 ?_
        cases Option.some.inj hf
        exact ab_retI dX12_set_46 (Or.inl rfl) (Nat.le_refl _) (Nat.le_refl _) ⟨rfl, rfl⟩
set_option maxHeartbeats 4000000 in
set_option maxRecDepth 100000 in
theorem m_X12_set {d : Nat} {t0 : Nat} {i1 : Int32} {i2 : Int32} {h : ab_HP} {r : (Int32 × ab_HP)} (ht0 : (ab_shp t0).1 = 5) (hf : f_X12_set t0 i1 i2 h = some r) : ab_MET mX12_set (d + 1) 0 0 [va_rf (some t0), .int i1, .int i2] h (ab_Pi r.1 r.2) := ab_met (by decide +kernel) (by decide +kernel) (Nat.le_of_ble_eq_true rfl) rfl (x_X12_set ht0 hf)
set_option maxHeartbeats 4000000 in
set_option maxRecDepth 100000 in
theorem x_X12_mayBy {d : Nat} {t0 : Nat} {i1 : Int32} {i2 : Int32} {i3 : Int32} {h : ab_HP} {r : Int32} (ht0 : (ab_shp t0).1 = 5) (hf : f_X12_mayBy t0 i1 i2 i3 h = some r) : ab_T mX12_mayBy (d + 2) 0 0 0 0 0 [some (va_rf (some t0)), some (.int i1), some (.int i2), some (.int i3)] [] h (ab_Pb r h) := by
  unfold f_X12_mayBy at hf
  refine ab_aload_n (x := _) (pc2 := 1) dX12_mayBy_0 rfl rfl ?_
  refine ab_iload_n (pc2 := 2) dX12_mayBy_1 rfl rfl ?_
  refine ab_iconst (pc2 := 3) (v := 1) dX12_mayBy_2 rfl ab_k_iconst_1 ?_
  obtain ⟨w1, ew1, hf⟩ := ab_bind hf
  refine ab_callV (pc2 := 6) (st := []) rfl ht0 (by decide) (m_X12_get (d := (d + 1)) ht0 ew1) mf_X12_get tw_129 tw_128 ts_X12_get (Or.inl (by decide +kernel)) dX12_mayBy_3 rfl (by omega) (Nat.le_refl _) (Nat.le_refl _) rfl (Nat.le_of_ble_eq_true rfl) (ab_kPi ?_)
  refine ab_iload_n (pc2 := 7) dX12_mayBy_6 rfl rfl ?_
  refine ab_iconst (pc2 := 8) (v := (-1)) dX12_mayBy_7 rfl ab_k_iconst_m1 ?_
  refine ab_ixor (pc2 := 9) dX12_mayBy_8 rfl ?_
  refine ab_iand (pc2 := 10) dX12_mayBy_9 rfl ?_
  refine ab_if_ne (tgt := 26) (pc2 := 13) dX12_mayBy_10 (by decide) rfl hf (fun c2 hf => ?_) (fun c2 hf => ?_)
  · refine ab_iconst (pc2 := 27) (v := 0) dX12_mayBy_26 rfl ab_k_iconst_0 ?_
    cases Option.some.inj hf
    exact ab_retI dX12_mayBy_27 (Or.inr ⟨rfl, (Or.inl rfl)⟩) (Nat.le_refl _) (Nat.le_refl _) ⟨rfl, rfl, (Or.inl rfl)⟩
  · refine ab_iload_n (pc2 := 14) dX12_mayBy_13 rfl rfl ?_
    refine ab_aload_n (x := _) (pc2 := 15) dX12_mayBy_14 rfl rfl ?_
    refine ab_iload_n (pc2 := 16) dX12_mayBy_15 rfl rfl ?_
    obtain ⟨w3, ew3, hf⟩ := ab_bind hf
    refine ab_callV (pc2 := 19) (st := [_]) rfl ht0 (by decide) (m_X12_costOf (d := (d + 0)) ht0 ew3) mf_X12_costOf tw_131 tw_130 ts_X12_costOf (Or.inl (by decide +kernel)) dX12_mayBy_16 rfl (by omega) (Nat.le_refl _) (Nat.le_refl _) rfl (Nat.le_of_ble_eq_true rfl) (ab_kPi ?_)
    refine ab_icmp_lt (tgt := 26) (pc2 := 22) dX12_mayBy_19 (by decide) rfl hf (fun c4 hf => ?_) (fun c4 hf => ?_)
    · refine ab_iconst (pc2 := 27) (v := 0) dX12_mayBy_26 rfl ab_k_iconst_0 ?_
      cases Option.some.inj hf
      exact ab_retI dX12_mayBy_27 (Or.inr ⟨rfl, (Or.inl rfl)⟩) (Nat.le_refl _) (Nat.le_refl _) ⟨rfl, rfl, (Or.inl rfl)⟩
    · refine ab_iconst (pc2 := 23) (v := 1) dX12_mayBy_22 rfl ab_k_iconst_1 ?_
      refine ab_goto (tgt := 27) dX12_mayBy_23 (by decide) ?_
      cases Option.some.inj hf
      exact ab_retI dX12_mayBy_27 (Or.inr ⟨rfl, (Or.inr rfl)⟩) (Nat.le_refl _) (Nat.le_refl _) ⟨rfl, rfl, (Or.inr rfl)⟩
set_option maxHeartbeats 4000000 in
set_option maxRecDepth 100000 in
theorem m_X12_mayBy {d : Nat} {t0 : Nat} {i1 : Int32} {i2 : Int32} {i3 : Int32} {h : ab_HP} {r : Int32} (ht0 : (ab_shp t0).1 = 5) (hf : f_X12_mayBy t0 i1 i2 i3 h = some r) : ab_MET mX12_mayBy (d + 2) 0 0 [va_rf (some t0), .int i1, .int i2, .int i3] h (ab_Pb r h) := ab_met (by decide +kernel) (by decide +kernel) (Nat.le_of_ble_eq_true rfl) rfl (x_X12_mayBy ht0 hf)
set_option maxHeartbeats 4000000 in
set_option maxRecDepth 100000 in
theorem x_X12_may {d : Nat} {t0 : Nat} {i1 : Int32} {h : ab_HP} {r : Int32} (ht0 : (ab_shp t0).1 = 5) (hf : f_X12_may t0 i1 h = some r) : ab_T mX12_may (d + 3) 0 0 0 0 0 [some (va_rf (some t0)), some (.int i1)] [] h (ab_Pi r h) := by
  unfold f_X12_may at hf
  refine ab_aload_n (x := _) (pc2 := 1) dX12_may_0 rfl rfl ?_
  refine ab_iload_n (pc2 := 2) dX12_may_1 rfl rfl ?_
  obtain ⟨w1, ew1, hf⟩ := ab_bind hf
  refine ab_callV (pc2 := 5) (st := []) rfl ht0 (by decide) (m_X12_isDeed (d := (d + 1)) ht0 ew1) mf_X12_isDeed tw_133 tw_132 ts_X12_isDeed (Or.inl (by decide +kernel)) dX12_may_2 rfl (by omega) (Nat.le_refl _) (Nat.le_refl _) rfl (Nat.le_of_ble_eq_true rfl) (ab_kPb fun z2 => ?_)
  refine ab_if_ne (tgt := 12) (pc2 := 8) dX12_may_5 (by decide) rfl hf (fun c3 hf => ?_) (fun c3 hf => ?_)
  · refine ab_aload_n (x := _) (pc2 := 13) dX12_may_12 rfl rfl ?_
    refine ab_iload_n (pc2 := 14) dX12_may_13 rfl rfl ?_
    refine ab_aload_n (x := _) (pc2 := 15) dX12_may_14 rfl rfl ?_
    refine ab_getR (pc2 := 18) rfl ht0 fa_X12_9 dX12_may_15 rfl (fun T4 => ?_)
    refine ab_iconst (pc2 := 19) (v := 0) dX12_may_18 rfl ab_k_iconst_0 ?_
    obtain ⟨q5, hq5, hf⟩ := ab_bind hf
    obtain ⟨b6, hf⟩ := ab_guard hf
    refine ab_iald (pc2 := 20) hq5 (T4 q5 hq5) (ab_in_vp b6) dX12_may_19 rfl ?_
    refine ab_aload_n (x := _) (pc2 := 21) dX12_may_20 rfl rfl ?_
    refine ab_getR (pc2 := 24) rfl ht0 fa_X12_9 dX12_may_21 rfl (fun T7 => ?_)
    refine ab_iconst (pc2 := 25) (v := 1) dX12_may_24 rfl ab_k_iconst_1 ?_
    obtain ⟨q8, hq8, hf⟩ := ab_bind hf
    obtain ⟨b9, hf⟩ := ab_guard hf
    refine ab_iald (pc2 := 26) hq8 (T7 q8 hq8) (ab_in_vp b9) dX12_may_25 rfl ?_
    obtain ⟨w10, ew10, hf⟩ := ab_bind hf
    refine ab_callV (pc2 := 29) (st := []) rfl ht0 (by decide) (m_X12_mayBy (d := (d + 0)) ht0 ew10) mf_X12_mayBy tw_153 tw_152 ts_X12_mayBy (Or.inl (by decide +kernel)) dX12_may_26 rfl (by omega) (Nat.le_refl _) (Nat.le_refl _) rfl (Nat.le_of_ble_eq_true rfl) (ab_kPb fun z11 => ?_)
    refine ab_if_eq (tgt := 36) (pc2 := 32) dX12_may_29 (by decide) rfl hf (fun c12 hf => ?_) (fun c12 hf => ?_)
    · refine ab_iconst (pc2 := 37) (v := 0) dX12_may_36 rfl ab_k_iconst_0 ?_
      cases Option.some.inj hf
      exact ab_retI dX12_may_37 (Or.inl rfl) (Nat.le_refl _) (Nat.le_refl _) ⟨rfl, rfl⟩
    · refine ab_iconst (pc2 := 33) (v := 1) dX12_may_32 rfl ab_k_iconst_1 ?_
      refine ab_goto (tgt := 37) dX12_may_33 (by decide) ?_
      cases Option.some.inj hf
      exact ab_retI dX12_may_37 (Or.inl rfl) (Nat.le_refl _) (Nat.le_refl _) ⟨rfl, rfl⟩
  · refine ab_iconst (pc2 := 9) (v := (-1)) dX12_may_8 rfl ab_k_iconst_m1 ?_
    refine ab_goto (tgt := 37) dX12_may_9 (by decide) ?_
    cases Option.some.inj hf
    exact ab_retI dX12_may_37 (Or.inl rfl) (Nat.le_refl _) (Nat.le_refl _) ⟨rfl, rfl⟩
set_option maxHeartbeats 4000000 in
set_option maxRecDepth 100000 in
theorem m_X12_may {d : Nat} {t0 : Nat} {i1 : Int32} {h : ab_HP} {r : Int32} (ht0 : (ab_shp t0).1 = 5) (hf : f_X12_may t0 i1 h = some r) : ab_MET mX12_may (d + 3) 0 0 [va_rf (some t0), .int i1] h (ab_Pi r h) := ab_met (by decide +kernel) (by decide +kernel) (Nat.le_of_ble_eq_true rfl) rfl (x_X12_may ht0 hf)
set_option maxHeartbeats 4000000 in
set_option maxRecDepth 100000 in
theorem x_X12_areNails {d : Nat} {i0 : Int32} {h : ab_HP} {r : Int32}  (hf : f_X12_areNails i0 h = some r) : ab_T mX12_areNails (d + 1) 0 0 0 0 0 [some (.int i0)] [] h (ab_Pb r h) := by
  unfold f_X12_areNails at hf
  refine ab_iload_n (pc2 := 1) dX12_areNails_0 rfl rfl ?_
  refine ab_i2l (pc2 := 2) dX12_areNails_1 rfl ?_
  refine ab_lconst (pc2 := 3) (v := 0) dX12_areNails_2 rfl rfl ?_
  refine ab_ldc2 (pc2 := 6) (v := 255) dX12_areNails_3 rfl tw_204 ?_
  obtain ⟨w1, ew1, hf⟩ := ab_bind hf
  refine ab_callS (pc2 := 9) (st := []) (m_X12_isIn (d := (d + 0)) ew1) mf_X12_isIn tw_101 tw_102 dX12_areNails_6 rfl (by omega) (Nat.le_refl _) (Nat.le_refl _) rfl (Nat.le_of_ble_eq_true rfl) (ab_kPb fun z2 => ?_)
  cases Option.some.inj hf
  exact ab_retI dX12_areNails_9 (Or.inr ⟨rfl, z2⟩) (Nat.le_refl _) (Nat.le_refl _) ⟨rfl, rfl, z2⟩
set_option maxHeartbeats 4000000 in
set_option maxRecDepth 100000 in
theorem m_X12_areNails {d : Nat} {i0 : Int32} {h : ab_HP} {r : Int32}  (hf : f_X12_areNails i0 h = some r) : ab_MET mX12_areNails (d + 1) 0 0 [.int i0] h (ab_Pb r h) := ab_met (by decide +kernel) (by decide +kernel) (Nat.le_of_ble_eq_true rfl) rfl (x_X12_areNails  hf)
set_option maxHeartbeats 4000000 in
set_option maxRecDepth 100000 in
theorem x_X12_wrongList_l29 {d : Nat} {t0 : Nat} {r : Int32} (ht0 : (ab_shp t0).1 = 5) : ∀ (n : Nat) (i1 : Int32) (i3 : Int32) (h : ab_HP), f_X12_wrongList_l29 t0 n i1 i3 h = some r → ab_T mX12_wrongList (d + 3) 0 0 0 0 29 [some (va_rf (some t0)), some (.int i1), none, some (.int i3)] [] h (ab_Pi r h) := by
  intro n
  induction n with
  | zero =>
    intro i1 i3 h hf
    rw [f_X12_wrongList_l29] at hf
    cases hf
  | succ n ih =>
    intro i1 i3 h hf
    rw [f_X12_wrongList_l29] at hf
    refine ab_iload_n (pc2 := 30) dX12_wrongList_29 rfl rfl ?_
    refine ab_aload_n (x := _) (pc2 := 31) dX12_wrongList_30 rfl rfl ?_
    refine ab_getR (pc2 := 34) rfl ht0 fa_X12_25 dX12_wrongList_31 rfl (fun T7 => ?_)
    refine ab_iload_n (pc2 := 35) dX12_wrongList_34 rfl rfl ?_
    obtain ⟨q8, hq8, hf⟩ := ab_bind hf
    obtain ⟨b9, hf⟩ := ab_guard hf
    refine ab_iald (pc2 := 36) hq8 (T7 q8 hq8) (ab_in_vp b9) dX12_wrongList_35 rfl ?_
    refine ab_icmp_ge (tgt := 66) (pc2 := 39) dX12_wrongList_36 (by decide) rfl hf (fun c10 hf => ?_) (fun c10 hf => ?_)
    · refine ab_iconst (pc2 := 67) (v := 0) dX12_wrongList_66 rfl ab_k_iconst_0 ?_
      cases Option.some.inj hf
      exact ab_retI dX12_wrongList_67 (Or.inl rfl) (Nat.le_refl _) (Nat.le_refl _) ⟨rfl, rfl⟩
    · refine ab_aload_n (x := _) (pc2 := 40) dX12_wrongList_39 rfl rfl ?_
      refine ab_aload_n (x := _) (pc2 := 41) dX12_wrongList_40 rfl rfl ?_
      refine ab_getR (pc2 := 44) rfl ht0 fa_X12_28 dX12_wrongList_41 rfl (fun T11 => ?_)
      refine ab_bipush (pc2 := 46) (v := 100) dX12_wrongList_44 rfl ab_k_bipush_100 ?_
      refine ab_iload_n (pc2 := 47) dX12_wrongList_46 rfl rfl ?_
      refine ab_imul (pc2 := 48) dX12_wrongList_47 rfl ?_
      refine ab_iload_n (pc2 := 49) dX12_wrongList_48 rfl rfl ?_
      refine ab_iadd (pc2 := 50) dX12_wrongList_49 rfl ?_
      obtain ⟨q12, hq12, hf⟩ := ab_bind hf
      obtain ⟨b13, hf⟩ := ab_guard hf
      refine ab_iald (pc2 := 51) hq12 (T11 q12 hq12) (ab_in_vp b13) dX12_wrongList_50 rfl ?_
      obtain ⟨w14, ew14, hf⟩ := ab_bind hf
      refine ab_callV (pc2 := 54) (st := []) rfl ht0 (by decide) (m_X12_isDeed (d := (d + 1)) ht0 ew14) mf_X12_isDeed tw_133 tw_132 ts_X12_isDeed (Or.inl (by decide +kernel)) dX12_wrongList_51 rfl (by omega) (Nat.le_refl _) (Nat.le_refl _) rfl (Nat.le_of_ble_eq_true rfl) (ab_kPb fun z15 => ?_)
      refine ab_if_ne (tgt := 60) (pc2 := 57) dX12_wrongList_54 (by decide) rfl hf (fun c16 hf => ?_) (fun c16 hf => ?_)
      · refine ab_iinc (pc2 := 63) (v := _ + 1) (lo2 := [some (va_rf _), some (.int _), none, some (.int _)]) dX12_wrongList_60 rfl rfl rfl (by decide) rfl ?_
        refine ab_goto (tgt := 29) dX12_wrongList_63 (by decide) ?_
        exact ab_weak (ih _ _ _ hf) (ab_leS (ab_leS (ab_leN (ab_leS ab_le0))))
      · refine ab_bipush (pc2 := 59) (v := (-13)) dX12_wrongList_57 rfl ab_k_bipush_m13 ?_
        cases Option.some.inj hf
        exact ab_retI dX12_wrongList_59 (Or.inl rfl) (Nat.le_refl _) (Nat.le_refl _) ⟨rfl, rfl⟩
set_option maxHeartbeats 4000000 in
set_option maxRecDepth 100000 in
theorem x_X12_wrongList {d : Nat} {t0 : Nat} {i1 : Int32} {h : ab_HP} {r : Int32} (ht0 : (ab_shp t0).1 = 5) (hf : f_X12_wrongList t0 i1 h = some r) : ab_T mX12_wrongList (d + 3) 0 0 0 0 0 [some (va_rf (some t0)), some (.int i1), none, none] [] h (ab_Pi r h) := by
  unfold f_X12_wrongList at hf
  refine ab_aload_n (x := _) (pc2 := 1) dX12_wrongList_0 rfl rfl ?_
  refine ab_iload_n (pc2 := 2) dX12_wrongList_1 rfl rfl ?_
  refine ab_iconst (pc2 := 3) (v := 0) dX12_wrongList_2 rfl ab_k_iconst_0 ?_
  obtain ⟨w1, ew1, hf⟩ := ab_bind hf
  refine ab_callV (pc2 := 6) (st := []) rfl ht0 (by decide) (m_X12_wrongRow (d := (d + 0)) ht0 ew1) mf_X12_wrongRow tw_122 tw_121 ts_X12_wrongRow (Or.inl (by decide +kernel)) dX12_wrongList_3 rfl (by omega) (Nat.le_refl _) (Nat.le_refl _) rfl (Nat.le_of_ble_eq_true rfl) (ab_kPi ?_)
  refine ab_istore_n (pc2 := 7) (lo2 := [some (va_rf _), some (.int _), some (.int _), none]) dX12_wrongList_6 rfl (by decide) rfl ?_
  refine ab_iload_n (pc2 := 8) dX12_wrongList_7 rfl rfl ?_
  refine ab_if_eq (tgt := 13) (pc2 := 11) dX12_wrongList_8 (by decide) rfl hf (fun c2 hf => ?_) (fun c2 hf => ?_)
  · refine ab_aload_n (x := _) (pc2 := 14) dX12_wrongList_13 rfl rfl ?_
    refine ab_getR (pc2 := 17) rfl ht0 fa_X12_25 dX12_wrongList_14 rfl (fun T3 => ?_)
    refine ab_iload_n (pc2 := 18) dX12_wrongList_17 rfl rfl ?_
    obtain ⟨q4, hq4, hf⟩ := ab_bind hf
    obtain ⟨b5, hf⟩ := ab_guard hf
    refine ab_iald (pc2 := 19) hq4 (T3 q4 hq4) (ab_in_vp b5) dX12_wrongList_18 rfl ?_
    refine ab_bipush (pc2 := 21) (v := 8) dX12_wrongList_19 rfl ab_k_bipush_8 ?_
    refine ab_icmp_le (tgt := 27) (pc2 := 24) dX12_wrongList_21 (by decide) rfl hf (fun c6 hf => ?_) (fun c6 hf => ?_)
    · refine ab_iconst (pc2 := 28) (v := 0) dX12_wrongList_27 rfl ab_k_iconst_0 ?_
      refine ab_istore_n (pc2 := 29) (lo2 := [some (va_rf _), some (.int _), some (.int _), some (.int _)]) dX12_wrongList_28 rfl (by decide) rfl ?_
      exact ab_weak (x_X12_wrongList_l29 ht0 _ _ _ _ hf) (ab_leS (ab_leS (ab_leN (ab_leS ab_le0))))
    · refine ab_bipush (pc2 := 26) (v := (-13)) dX12_wrongList_24 rfl ab_k_bipush_m13 ?_
      cases Option.some.inj hf
      exact ab_retI dX12_wrongList_26 (Or.inl rfl) (Nat.le_refl _) (Nat.le_refl _) ⟨rfl, rfl⟩
  · refine ab_iload_n (pc2 := 12) dX12_wrongList_11 rfl rfl ?_
    cases Option.some.inj hf
    exact ab_retI dX12_wrongList_12 (Or.inl rfl) (Nat.le_refl _) (Nat.le_refl _) ⟨rfl, rfl⟩
set_option maxHeartbeats 4000000 in
set_option maxRecDepth 100000 in
theorem m_X12_wrongList {d : Nat} {t0 : Nat} {i1 : Int32} {h : ab_HP} {r : Int32} (ht0 : (ab_shp t0).1 = 5) (hf : f_X12_wrongList t0 i1 h = some r) : ab_MET mX12_wrongList (d + 3) 0 0 [va_rf (some t0), .int i1] h (ab_Pi r h) := ab_met (by decide +kernel) (by decide +kernel) (Nat.le_of_ble_eq_true rfl) rfl (x_X12_wrongList ht0 hf)
set_option maxHeartbeats 4000000 in
set_option maxRecDepth 100000 in
theorem x_X12_begins {d : Nat} {t0 : Nat} {h : ab_HP} {r : ab_HP} (ht0 : (ab_shp t0).1 = 5) (hf : f_X12_begins t0 h = some r) : ab_T mX12_begins (d + 0) 0 0 0 0 0 [some (va_rf (some t0))] [] h (ab_Pv r) := by
  unfold f_X12_begins at hf
  refine ab_aload_n (x := _) (pc2 := 1) dX12_begins_0 rfl rfl ?_
  refine ab_aload_n (x := _) (pc2 := 2) dX12_begins_1 rfl rfl ?_
  refine ab_getR (pc2 := 5) rfl ht0 fa_X12_9 dX12_begins_2 rfl (fun T1 => ?_)
  refine ab_iconst (pc2 := 6) (v := 0) dX12_begins_5 rfl ab_k_iconst_0 ?_
  obtain ⟨q2, hq2, hf⟩ := ab_bind hf
  obtain ⟨b3, hf⟩ := ab_guard hf
  refine ab_iald (pc2 := 7) hq2 (T1 q2 hq2) (ab_in_vp b3) dX12_begins_6 rfl ?_
  obtain ⟨h4, eh4, hf⟩ := ab_let_x hf
  refine ab_putI (pc2 := 10) rfl ht0 fa_X12_175 (Or.inl rfl) (fun z => by cases z) dX12_begins_7 rfl ?_
  refine ab_topH eh4 ?_
  refine ab_aload_n (x := _) (pc2 := 11) dX12_begins_10 rfl rfl ?_
  refine ab_aload_n (x := _) (pc2 := 12) dX12_begins_11 rfl rfl ?_
  refine ab_getR (pc2 := 15) rfl ht0 fa_X12_9 dX12_begins_12 rfl (fun T5 => ?_)
  refine ab_iconst (pc2 := 16) (v := 1) dX12_begins_15 rfl ab_k_iconst_1 ?_
  obtain ⟨q6, hq6, hf⟩ := ab_bind hf
  obtain ⟨b7, hf⟩ := ab_guard hf
  refine ab_iald (pc2 := 17) hq6 (T5 q6 hq6) (ab_in_vp b7) dX12_begins_16 rfl ?_
  obtain ⟨h8, eh8, hf⟩ := ab_let_x hf
  refine ab_putI (pc2 := 20) rfl ht0 fa_X12_178 (Or.inl rfl) (fun z => by cases z) dX12_begins_17 rfl ?_
  refine ab_topH eh8 ?_
  refine ab_aload_n (x := _) (pc2 := 21) dX12_begins_20 rfl rfl ?_
  refine ab_iconst (pc2 := 22) (v := 0) dX12_begins_21 rfl ab_k_iconst_0 ?_
  obtain ⟨h9, eh9, hf⟩ := ab_let_x hf
  refine ab_putI (pc2 := 25) rfl ht0 fa_X12_181 (Or.inl rfl) (fun z => by cases z) dX12_begins_22 rfl ?_
  refine ab_topH eh9 ?_
  refine ab_aload_n (x := _) (pc2 := 26) dX12_begins_25 rfl rfl ?_
  refine ab_iconst (pc2 := 27) (v := 0) dX12_begins_26 rfl ab_k_iconst_0 ?_
  obtain ⟨h10, eh10, hf⟩ := ab_let_x hf
  refine ab_putI (pc2 := 30) rfl ht0 fa_X12_184 (Or.inl rfl) (fun z => by cases z) dX12_begins_27 rfl ?_
  refine ab_topH eh10 ?_
  cases Option.some.inj hf
  exact ab_retV dX12_begins_30 rfl (Nat.le_refl _) (Nat.le_refl _) ⟨rfl, rfl⟩
set_option maxHeartbeats 4000000 in
set_option maxRecDepth 100000 in
theorem m_X12_begins {d : Nat} {t0 : Nat} {h : ab_HP} {r : ab_HP} (ht0 : (ab_shp t0).1 = 5) (hf : f_X12_begins t0 h = some r) : ab_MET mX12_begins (d + 0) 0 0 [va_rf (some t0)] h (ab_Pv r) := ab_met (by decide +kernel) (by decide +kernel) (Nat.le_of_ble_eq_true rfl) rfl (x_X12_begins ht0 hf)
set_option maxHeartbeats 4000000 in
set_option maxRecDepth 100000 in
theorem x_X12_lays_l12 {d : Nat} {t0 : Nat} {r : ab_HP} (ht0 : (ab_shp t0).1 = 5) : ∀ (n : Nat) (i1 : Int32) (i2 : Int32) (i3 : Int32) (h : ab_HP), f_X12_lays_l12 t0 n i1 i2 i3 h = some r → ab_T mX12_lays (d + 1) 0 0 0 0 12 [some (va_rf (some t0)), some (.int i1), some (.int i2), some (.int i3)] [] h (ab_Pv r) := by
  intro n
  induction n with
  | zero =>
    intro i1 i2 i3 h hf
    rw [f_X12_lays_l12] at hf
    cases hf
  | succ n ih =>
    intro i1 i2 i3 h hf
    rw [f_X12_lays_l12] at hf
    refine ab_iload_n (pc2 := 13) dX12_lays_12 rfl rfl ?_
    refine ab_aload_n (x := _) (pc2 := 14) dX12_lays_13 rfl rfl ?_
    refine ab_getI (pc2 := 17) rfl ht0 fa_X12_166 (by decide) dX12_lays_14 rfl ?_
    refine ab_icmp_ge (tgt := 43) (pc2 := 20) dX12_lays_17 (by decide) rfl hf (fun c5 hf => ?_) (fun c5 hf => ?_)
    · refine ab_aload_n (x := _) (pc2 := 44) dX12_lays_43 rfl rfl ?_
      refine ab_iload_n (pc2 := 45) dX12_lays_44 rfl rfl ?_
      obtain ⟨h6, eh6, hf⟩ := ab_let_x hf
      refine ab_putI (pc2 := 48) rfl ht0 fa_X12_169 (Or.inl rfl) (fun z => by cases z) dX12_lays_45 rfl ?_
      refine ab_topH eh6 ?_
      refine ab_aload_n (x := _) (pc2 := 49) dX12_lays_48 rfl rfl ?_
      obtain ⟨w7, ew7, hf⟩ := ab_bind hf
      refine ab_callV (pc2 := 52) (st := []) rfl ht0 (by decide) (m_X12_begins (d := (d + 0)) ht0 ew7) mf_X12_begins tw_206 tw_205 ts_X12_begins (Or.inl (by decide +kernel)) dX12_lays_49 rfl (by omega) (Nat.le_refl _) (Nat.le_refl _) rfl (Nat.le_of_ble_eq_true rfl) (ab_kPv ?_)
      cases Option.some.inj hf
      exact ab_retV dX12_lays_52 rfl (Nat.le_refl _) (Nat.le_refl _) ⟨rfl, rfl⟩
    · refine ab_aload_n (x := _) (pc2 := 21) dX12_lays_20 rfl rfl ?_
      refine ab_getR (pc2 := 24) rfl ht0 fa_X12_40 dX12_lays_21 rfl (fun T8 => ?_)
      refine ab_iload_n (pc2 := 25) dX12_lays_24 rfl rfl ?_
      refine ab_aload_n (x := _) (pc2 := 26) dX12_lays_25 rfl rfl ?_
      refine ab_getR (pc2 := 29) rfl ht0 fa_X12_28 dX12_lays_26 rfl (fun T9 => ?_)
      refine ab_bipush (pc2 := 31) (v := 100) dX12_lays_29 rfl ab_k_bipush_100 ?_
      refine ab_iload_n (pc2 := 32) dX12_lays_31 rfl rfl ?_
      refine ab_imul (pc2 := 33) dX12_lays_32 rfl ?_
      refine ab_iload_n (pc2 := 34) dX12_lays_33 rfl rfl ?_
      refine ab_iadd (pc2 := 35) dX12_lays_34 rfl ?_
      obtain ⟨q10, hq10, hf⟩ := ab_bind hf
      obtain ⟨b11, hf⟩ := ab_guard hf
      refine ab_iald (pc2 := 36) hq10 (T9 q10 hq10) (ab_in_vp b11) dX12_lays_35 rfl ?_
      obtain ⟨q12, hq12, hf⟩ := ab_bind hf
      obtain ⟨b13, hf⟩ := ab_guard hf
      obtain ⟨h14, eh14, hf⟩ := ab_let_x hf
      refine ab_iast (pc2 := 37) hq12 (T8 q12 hq12) (ab_in_vp b13) dX12_lays_36 rfl ?_
      refine ab_topH eh14 ?_
      refine ab_iinc (pc2 := 40) (v := _ + 1) (lo2 := [some (va_rf _), some (.int _), some (.int _), some (.int _)]) dX12_lays_37 rfl rfl rfl (by decide) rfl ?_
      refine ab_goto (tgt := 12) dX12_lays_40 (by decide) ?_
      exact ab_weak (ih _ _ _ _ hf) (ab_leS (ab_leS (ab_leS (ab_leS ab_le0))))
set_option maxHeartbeats 4000000 in
set_option maxRecDepth 100000 in
theorem x_X12_lays {d : Nat} {t0 : Nat} {i1 : Int32} {i2 : Int32} {h : ab_HP} {r : ab_HP} (ht0 : (ab_shp t0).1 = 5) (hf : f_X12_lays t0 i1 i2 h = some r) : ab_T mX12_lays (d + 1) 0 0 0 0 0 [some (va_rf (some t0)), some (.int i1), some (.int i2), none] [] h (ab_Pv r) := by
  unfold f_X12_lays at hf
  refine ab_aload_n (x := _) (pc2 := 1) dX12_lays_0 rfl rfl ?_
  refine ab_aload_n (x := _) (pc2 := 2) dX12_lays_1 rfl rfl ?_
  refine ab_getR (pc2 := 5) rfl ht0 fa_X12_25 dX12_lays_2 rfl (fun T1 => ?_)
  refine ab_iload_n (pc2 := 6) dX12_lays_5 rfl rfl ?_
  obtain ⟨q2, hq2, hf⟩ := ab_bind hf
  obtain ⟨b3, hf⟩ := ab_guard hf
  refine ab_iald (pc2 := 7) hq2 (T1 q2 hq2) (ab_in_vp b3) dX12_lays_6 rfl ?_
  obtain ⟨h4, eh4, hf⟩ := ab_let_x hf
  refine ab_putI (pc2 := 10) rfl ht0 fa_X12_166 (Or.inl rfl) (fun z => by cases z) dX12_lays_7 rfl ?_
  refine ab_topH eh4 ?_
  refine ab_iconst (pc2 := 11) (v := 0) dX12_lays_10 rfl ab_k_iconst_0 ?_
  refine ab_istore_n (pc2 := 12) (lo2 := [some (va_rf _), some (.int _), some (.int _), some (.int _)]) dX12_lays_11 rfl (by decide) rfl ?_
  exact ab_weak (x_X12_lays_l12 ht0 _ _ _ _ _ hf) (ab_leS (ab_leS (ab_leS (ab_leS ab_le0))))
set_option maxHeartbeats 4000000 in
set_option maxRecDepth 100000 in
theorem m_X12_lays {d : Nat} {t0 : Nat} {i1 : Int32} {i2 : Int32} {h : ab_HP} {r : ab_HP} (ht0 : (ab_shp t0).1 = 5) (hf : f_X12_lays t0 i1 i2 h = some r) : ab_MET mX12_lays (d + 1) 0 0 [va_rf (some t0), .int i1, .int i2] h (ab_Pv r) := ab_met (by decide +kernel) (by decide +kernel) (Nat.le_of_ble_eq_true rfl) rfl (x_X12_lays ht0 hf)
set_option maxHeartbeats 4000000 in
set_option maxRecDepth 100000 in
theorem x_X12_marksBy {d : Nat} {t0 : Nat} {i1 : Int32} {i2 : Int32} {h : ab_HP} {r : Int32} (ht0 : (ab_shp t0).1 = 5) (hf : f_X12_marksBy t0 i1 i2 h = some r) : ab_T mX12_marksBy (d + 1) 0 0 0 0 0 [some (va_rf (some t0)), some (.int i1), some (.int i2), none] [] h (ab_Pi r h) := by
  unfold f_X12_marksBy at hf
  refine ab_iconst (pc2 := 1) (v := 1) dX12_marksBy_0 rfl ab_k_iconst_1 ?_
  refine ab_aload_n (x := _) (pc2 := 2) dX12_marksBy_1 rfl rfl ?_
  refine ab_iload_n (pc2 := 3) dX12_marksBy_2 rfl rfl ?_
  refine ab_iconst (pc2 := 4) (v := 2) dX12_marksBy_3 rfl ab_k_iconst_2 ?_
  obtain ⟨w1, ew1, hf⟩ := ab_bind hf
  refine ab_callV (pc2 := 7) (st := [_]) rfl ht0 (by decide) (m_X12_get (d := (d + 0)) ht0 ew1) mf_X12_get tw_129 tw_128 ts_X12_get (Or.inl (by decide +kernel)) dX12_marksBy_4 rfl (by omega) (Nat.le_refl _) (Nat.le_refl _) rfl (Nat.le_of_ble_eq_true rfl) (ab_kPi ?_)
  refine ab_ishl (pc2 := 8) dX12_marksBy_7 rfl ?_
  refine ab_istore_n (pc2 := 9) (lo2 := [some (va_rf _), some (.int _), some (.int _), some (.int _)]) dX12_marksBy_8 rfl (by decide) rfl ?_
  refine ab_aload_n (x := _) (pc2 := 10) dX12_marksBy_9 rfl rfl ?_
  refine ab_iload_n (pc2 := 11) dX12_marksBy_10 rfl rfl ?_
  refine ab_iconst (pc2 := 12) (v := 0) dX12_marksBy_11 rfl ab_k_iconst_0 ?_
  obtain ⟨w2, ew2, hf⟩ := ab_bind hf
  refine ab_callV (pc2 := 15) (st := []) rfl ht0 (by decide) (m_X12_get (d := (d + 0)) ht0 ew2) mf_X12_get tw_129 tw_128 ts_X12_get (Or.inl (by decide +kernel)) dX12_marksBy_12 rfl (by omega) (Nat.le_refl _) (Nat.le_refl _) rfl (Nat.le_of_ble_eq_true rfl) (ab_kPi ?_)
  rcases ab_cas hf with ⟨s3, hf⟩ | ⟨s3, hf⟩
  · refine ab_lswK (tgt := 40) (off := 25) dX12_marksBy_15 s3 (by decide +kernel) (by decide +kernel) (by decide) ?_
    refine ab_iload_n (pc2 := 41) dX12_marksBy_40 rfl rfl ?_
    refine ab_iload_n (pc2 := 42) dX12_marksBy_41 rfl rfl ?_
    refine ab_iconst (pc2 := 43) (v := (-1)) dX12_marksBy_42 rfl ab_k_iconst_m1 ?_
    refine ab_ixor (pc2 := 44) dX12_marksBy_43 rfl ?_
    refine ab_iand (pc2 := 45) dX12_marksBy_44 rfl ?_
    cases Option.some.inj hf
    exact ab_retI dX12_marksBy_45 (Or.inl rfl) (Nat.le_refl _) (Nat.le_refl _) ⟨rfl, rfl⟩
  rcases ab_cas hf with ⟨s4, hf⟩ | ⟨s4, hf⟩
  · refine ab_lswK (tgt := 46) (off := 31) dX12_marksBy_15 s4 (by decide +kernel) (by decide +kernel) (by decide) ?_
    refine ab_iload_n (pc2 := 47) dX12_marksBy_46 rfl rfl ?_
    refine ab_iload_n (pc2 := 48) dX12_marksBy_47 rfl rfl ?_
    refine ab_ior (pc2 := 49) dX12_marksBy_48 rfl ?_
    refine ab_iconst (pc2 := 50) (v := 1) dX12_marksBy_49 rfl ab_k_iconst_1 ?_
    refine ab_aload_n (x := _) (pc2 := 51) dX12_marksBy_50 rfl rfl ?_
    refine ab_iload_n (pc2 := 52) dX12_marksBy_51 rfl rfl ?_
    refine ab_iconst (pc2 := 53) (v := 4) dX12_marksBy_52 rfl ab_k_iconst_4 ?_
    obtain ⟨w5, ew5, hf⟩ := ab_bind hf
    refine ab_callV (pc2 := 56) (st := [_, _]) rfl ht0 (by decide) (m_X12_get (d := (d + 0)) ht0 ew5) mf_X12_get tw_129 tw_128 ts_X12_get (Or.inl (by decide +kernel)) dX12_marksBy_53 rfl (by omega) (Nat.le_refl _) (Nat.le_refl _) rfl (Nat.le_of_ble_eq_true rfl) (ab_kPi ?_)
    refine ab_ishl (pc2 := 57) dX12_marksBy_56 rfl ?_
    refine ab_ior (pc2 := 58) dX12_marksBy_57 rfl ?_
    cases Option.some.inj hf
    exact ab_retI dX12_marksBy_58 (Or.inl rfl) (Nat.le_refl _) (Nat.le_refl _) ⟨rfl, rfl⟩
  refine ab_lsw (tgt := 59) (off := 44) dX12_marksBy_15 (by decide +kernel) (by show Op.lookupswitch.offset [(6, 25), (7, 31)] _ _ = _; rw [lv_osw s3 (by decide), lv_osw s4 (by decide)]; rfl) (by decide) ?_
  refine ab_iload_n (pc2 := 60) dX12_marksBy_59 rfl rfl ?_
  refine ab_iload_n (pc2 := 61) dX12_marksBy_60 rfl rfl ?_
  refine ab_ior (pc2 := 62) dX12_marksBy_61 rfl ?_
  cases Option.some.inj hf
  exact ab_retI dX12_marksBy_62 (Or.inl rfl) (Nat.le_refl _) (Nat.le_refl _) ⟨rfl, rfl⟩
set_option maxHeartbeats 4000000 in
set_option maxRecDepth 100000 in
theorem m_X12_marksBy {d : Nat} {t0 : Nat} {i1 : Int32} {i2 : Int32} {h : ab_HP} {r : Int32} (ht0 : (ab_shp t0).1 = 5) (hf : f_X12_marksBy t0 i1 i2 h = some r) : ab_MET mX12_marksBy (d + 1) 0 0 [va_rf (some t0), .int i1, .int i2] h (ab_Pi r h) := ab_met (by decide +kernel) (by decide +kernel) (Nat.le_of_ble_eq_true rfl) rfl (x_X12_marksBy ht0 hf)
set_option maxHeartbeats 4000000 in
set_option maxRecDepth 100000 in
theorem x_X12_priceOf {d : Nat} {t0 : Nat} {i1 : Int32} {h : ab_HP} {r : Int32} (ht0 : (ab_shp t0).1 = 5) (hf : f_X12_priceOf t0 i1 h = some r) : ab_T mX12_priceOf (d + 0) 0 0 0 0 0 [some (va_rf (some t0)), some (.int i1), none] [] h (ab_Pi r h) := by
  unfold f_X12_priceOf at hf
  refine ab_aload_n (x := _) (pc2 := 1) dX12_priceOf_0 rfl rfl ?_
  refine ab_getR (pc2 := 4) rfl ht0 fa_X12_9 dX12_priceOf_1 rfl (fun T1 => ?_)
  refine ab_iconst (pc2 := 5) (v := 4) dX12_priceOf_4 rfl ab_k_iconst_4 ?_
  obtain ⟨q2, hq2, hf⟩ := ab_bind hf
  obtain ⟨b3, hf⟩ := ab_guard hf
  refine ab_iald (pc2 := 6) hq2 (T1 q2 hq2) (ab_in_vp b3) dX12_priceOf_5 rfl ?_
  refine ab_iload_n (pc2 := 7) dX12_priceOf_6 rfl rfl ?_
  refine ab_aload_n (x := _) (pc2 := 8) dX12_priceOf_7 rfl rfl ?_
  refine ab_getR (pc2 := 11) rfl ht0 fa_X12_9 dX12_priceOf_8 rfl (fun T4 => ?_)
  refine ab_iconst (pc2 := 12) (v := 5) dX12_priceOf_11 rfl ab_k_iconst_5 ?_
  obtain ⟨q5, hq5, hf⟩ := ab_bind hf
  obtain ⟨b6, hf⟩ := ab_guard hf
  refine ab_iald (pc2 := 13) hq5 (T4 q5 hq5) (ab_in_vp b6) dX12_priceOf_12 rfl ?_
  refine ab_imul (pc2 := 14) dX12_priceOf_13 rfl ?_
  refine ab_iadd (pc2 := 15) dX12_priceOf_14 rfl ?_
  obtain ⟨v7, ev7, hf⟩ := ab_let_x hf
  refine ab_topI ev7 ?_
  refine ab_istore_n (pc2 := 16) (lo2 := [some (va_rf _), some (.int _), some (.int _)]) dX12_priceOf_15 rfl (by decide) rfl ?_
  refine ab_iload_n (pc2 := 17) dX12_priceOf_16 rfl rfl ?_
  refine ab_if_ge (tgt := 24) (pc2 := 20) dX12_priceOf_17 (by decide) rfl hf (fun c8 hf => ?_) (fun c8 hf => ?_)
  · refine ab_iload_n (pc2 := 25) dX12_priceOf_24 rfl rfl ?_
    cases Option.some.inj hf
    exact ab_retI dX12_priceOf_25 (Or.inl rfl) (Nat.le_refl _) (Nat.le_refl _) ⟨rfl, rfl⟩
  · refine ab_iconst (pc2 := 21) (v := 0) dX12_priceOf_20 rfl ab_k_iconst_0 ?_
    refine ab_goto (tgt := 25) dX12_priceOf_21 (by decide) ?_
    cases Option.some.inj hf
    exact ab_retI dX12_priceOf_25 (Or.inl rfl) (Nat.le_refl _) (Nat.le_refl _) ⟨rfl, rfl⟩
set_option maxHeartbeats 4000000 in
set_option maxRecDepth 100000 in
theorem m_X12_priceOf {d : Nat} {t0 : Nat} {i1 : Int32} {h : ab_HP} {r : Int32} (ht0 : (ab_shp t0).1 = 5) (hf : f_X12_priceOf t0 i1 h = some r) : ab_MET mX12_priceOf (d + 0) 0 0 [va_rf (some t0), .int i1] h (ab_Pi r h) := ab_met (by decide +kernel) (by decide +kernel) (Nat.le_of_ble_eq_true rfl) rfl (x_X12_priceOf ht0 hf)
