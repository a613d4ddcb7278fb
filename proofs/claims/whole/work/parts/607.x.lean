set_option maxHeartbeats 4000000 in
set_option maxRecDepth 100000 in
theorem x_X11_freest_b122 {d : Nat} {t0 : Nat} {i3 : Int32} {i4 : Int32} {i5 : Int32} {h : ab_HP} {r : (Int32 × ab_HP)} (ht0 : (ab_shp t0).1 = 0) (hf : f_X11_freest_b122 t0 i3 i4 i5 h = some r) : ab_T mX11_freest (d + 6) 0 0 0 0 122 [some (va_rf (some t0)), none, none, some (.int i3), some (.int i4), some (.int i5), none, none, none] [] h (ab_Pi r.1 r.2) := by
  unfold f_X11_freest_b122 at hf
  refine ab_iload_n (pc2 := 123) dX11_freest_122 rfl rfl ?_
  refine ab_if_ne (tgt := 131) (pc2 := 126) dX11_freest_123 (by decide) rfl hf (fun c18 hf => ?_) (fun c18 hf => ?_)
  · refine ab_iload (pc2 := 133) dX11_freest_131 rfl rfl ?_
    cases Option.some.inj hf
    exact ab_retI dX11_freest_133 (Or.inl rfl) (Nat.le_refl _) (Nat.le_refl _) ⟨rfl, rfl⟩
  · refine ab_iload (pc2 := 128) dX11_freest_126 rfl rfl ?_
    refine ab_goto (tgt := 133) dX11_freest_128 (by decide) ?_
    cases Option.some.inj hf
    exact ab_retI dX11_freest_133 (Or.inl rfl) (Nat.le_refl _) (Nat.le_refl _) ⟨rfl, rfl⟩
set_option maxHeartbeats 4000000 in
set_option maxRecDepth 100000 in
theorem x_X11_freest_b106 {d : Nat} {k42 : Option Nat → Int32 → Int32 → Int32 → Int32 → Int32 → Int32 → ab_HP → Option (Int32 × ab_HP)} {t0 : Nat} {i1 : Option Nat} {i2 : Int32} {i3 : Int32} {i4 : Int32} {i5 : Int32} {i7 : Int32} {h : ab_HP} {r : (Int32 × ab_HP)} (ht0 : (ab_shp t0).1 = 0) (hk42 : ∀ (i1 : Option Nat) (i2 : Int32) (i3 : Int32) (i4 : Int32) (i5 : Int32) (i6 : Int32) (i7 : Int32) (h : ab_HP), (∀ z, i1 = some z → (ab_shp z).1 = 3) → k42 i1 i2 i3 i4 i5 i6 i7 h = some r → ab_T mX11_freest (d + 6) 0 0 0 0 42 [some (va_rf (some t0)), some (va_rf i1), some (.int i2), some (.int i3), some (.int i4), some (.int i5), some (.int i6), some (.int i7), none] [] h (ab_Pi r.1 r.2)) (T_i1 : ∀ z, i1 = some z → (ab_shp z).1 = 3) (hf : f_X11_freest_b106 k42 t0 i1 i2 i3 i4 i5 i7 h = some r) : ab_T mX11_freest (d + 6) 0 0 0 0 106 [some (va_rf (some t0)), some (va_rf i1), some (.int i2), some (.int i3), some (.int i4), some (.int i5), none, some (.int i7), none] [] h (ab_Pi r.1 r.2) := by
  unfold f_X11_freest_b106 at hf
  refine ab_aload_n (x := _) (pc2 := 107) dX11_freest_106 rfl rfl ?_
  refine ab_aload_n (x := _) (pc2 := 108) dX11_freest_107 rfl rfl ?_
  obtain ⟨q19, hq19, hf⟩ := ab_bind hf
  refine ab_getI (pc2 := 111) hq19 (T_i1 q19 hq19) fa_X11_182 (by decide) dX11_freest_108 rfl ?_
  obtain ⟨w20, ew20, hf⟩ := ab_bind hf
  refine ab_callV (pc2 := 114) (st := []) rfl ht0 (by decide) (m_X11_nextOrder (d := (d + 3)) ht0 ew20) mf_X11_nextOrder tw_258 tw_257 ts_X11_nextOrder (Or.inl (by decide +kernel)) dX11_freest_111 rfl (by omega) (Nat.le_refl _) (Nat.le_refl _) rfl (Nat.le_of_ble_eq_true rfl) (ab_kPb fun z21 => ?_)
  refine ab_istore (pc2 := 116) (lo2 := [some (va_rf _), some (va_rf _), some (.int _), some (.int _), some (.int _), some (.int _), some (.int _), some (.int _), none]) dX11_freest_114 rfl (by decide) rfl ?_
  refine ab_iinc (pc2 := 119) (v := _ + 1) (lo2 := [some (va_rf _), some (va_rf _), some (.int _), some (.int _), some (.int _), some (.int _), some (.int _), some (.int _), none]) dX11_freest_116 rfl rfl rfl (by decide) rfl ?_
  refine ab_goto (tgt := 42) dX11_freest_119 (by decide) ?_
  exact ab_weak (hk42 _ _ _ _ _ _ _ _ T_i1 hf) (ab_leS (ab_leS (ab_leS (ab_leS (ab_leS (ab_leS (ab_leS (ab_leS (ab_leN ab_le0)))))))))
set_option maxHeartbeats 4000000 in
set_option maxRecDepth 100000 in
theorem x_X11_freest_b89 {d : Nat} {k42 : Option Nat → Int32 → Int32 → Int32 → Int32 → Int32 → Int32 → ab_HP → Option (Int32 × ab_HP)} {t0 : Nat} {i1 : Option Nat} {i2 : Int32} {i3 : Int32} {i7 : Int32} {i8 : Int32} {h : ab_HP} {r : (Int32 × ab_HP)} (ht0 : (ab_shp t0).1 = 0) (hk42 : ∀ (i1 : Option Nat) (i2 : Int32) (i3 : Int32) (i4 : Int32) (i5 : Int32) (i6 : Int32) (i7 : Int32) (h : ab_HP), (∀ z, i1 = some z → (ab_shp z).1 = 3) → k42 i1 i2 i3 i4 i5 i6 i7 h = some r → ab_T mX11_freest (d + 6) 0 0 0 0 42 [some (va_rf (some t0)), some (va_rf i1), some (.int i2), some (.int i3), some (.int i4), some (.int i5), some (.int i6), some (.int i7), none] [] h (ab_Pi r.1 r.2)) (T_i1 : ∀ z, i1 = some z → (ab_shp z).1 = 3) (hf : f_X11_freest_b89 k42 t0 i1 i2 i3 i7 i8 h = some r) : ab_T mX11_freest (d + 6) 0 0 0 0 89 [some (va_rf (some t0)), some (va_rf i1), some (.int i2), some (.int i3), none, none, none, some (.int i7), some (.int i8)] [] h (ab_Pi r.1 r.2) := by
  unfold f_X11_freest_b89 at hf
  refine ab_iload (pc2 := 91) dX11_freest_89 rfl rfl ?_
  obtain ⟨w22, ew22, hf⟩ := ab_bind hf
  refine ab_callS (pc2 := 94) (st := []) (m_J6_bitCount_0f7a4 (d := (d + 5)) ew22) mf_J6_bitCount_0f7a4 tw_202 tw_203 dX11_freest_91 rfl (by omega) (Nat.le_refl _) (Nat.le_refl _) rfl (Nat.le_of_ble_eq_true rfl) (ab_kPi ?_)
  refine ab_istore (pc2 := 96) (lo2 := [some (va_rf _), some (va_rf _), some (.int _), some (.int _), some (.int _), none, none, some (.int _), some (.int _)]) dX11_freest_94 rfl (by decide) rfl ?_
  refine ab_aload_n (x := _) (pc2 := 97) dX11_freest_96 rfl rfl ?_
  refine ab_aload_n (x := _) (pc2 := 98) dX11_freest_97 rfl rfl ?_
  obtain ⟨q23, hq23, hf⟩ := ab_bind hf
  refine ab_getI (pc2 := 101) hq23 (T_i1 q23 hq23) fa_X11_182 (by decide) dX11_freest_98 rfl ?_
  obtain ⟨w24, ew24, hf⟩ := ab_bind hf
  refine ab_callV (pc2 := 104) (st := []) rfl ht0 (by decide) (m_X11_orderDigits (d := (d + 4)) ht0 ew24) mf_X11_orderDigits tw_260 tw_259 ts_X11_orderDigits (Or.inl (by decide +kernel)) dX11_freest_101 rfl (by omega) (Nat.le_refl _) (Nat.le_refl _) rfl (Nat.le_of_ble_eq_true rfl) (ab_kPi ?_)
  refine ab_istore (pc2 := 106) (lo2 := [some (va_rf _), some (va_rf _), some (.int _), some (.int _), some (.int _), some (.int _), none, some (.int _), some (.int _)]) dX11_freest_104 rfl (by decide) rfl ?_
  exact ab_weak (x_X11_freest_b106 ht0 hk42 T_i1 hf) (ab_leS (ab_leS (ab_leS (ab_leS (ab_leS (ab_leS (ab_leN (ab_leS (ab_leN ab_le0)))))))))
set_option maxHeartbeats 4000000 in
set_option maxRecDepth 100000 in
theorem x_X11_freest_l42 {d : Nat} {t0 : Nat} {r : (Int32 × ab_HP)} (ht0 : (ab_shp t0).1 = 0) : ∀ (n : Nat) (i1 : Option Nat) (i2 : Int32) (i3 : Int32) (i4 : Int32) (i5 : Int32) (i6 : Int32) (i7 : Int32) (h : ab_HP), (∀ z, i1 = some z → (ab_shp z).1 = 3) → f_X11_freest_l42 t0 n i1 i2 i3 i4 i5 i6 i7 h = some r → ab_T mX11_freest (d + 6) 0 0 0 0 42 [some (va_rf (some t0)), some (va_rf i1), some (.int i2), some (.int i3), some (.int i4), some (.int i5), some (.int i6), some (.int i7), none] [] h (ab_Pi r.1 r.2) := by
  intro n
  induction n with
  | zero =>
    intro i1 i2 i3 i4 i5 i6 i7 h T_i1 hf
    rw [f_X11_freest_l42] at hf
    cases hf
  | succ n ih =>
    intro i1 i2 i3 i4 i5 i6 i7 h T_i1 hf
    rw [f_X11_freest_l42] at hf
    refine ab_iload (pc2 := 44) dX11_freest_42 rfl rfl ?_
    refine ab_bipush (pc2 := 46) (v := 120) dX11_freest_44 rfl ab_k_bipush_120 ?_
    refine ab_icmp_ge (tgt := 122) (pc2 := 49) dX11_freest_46 (by decide) rfl hf (fun c8 hf => ?_) (fun c8 hf => ?_)
    · exact ab_weak (x_X11_freest_b122 ht0 hf) (ab_leS (ab_leN (ab_leN (ab_leS (ab_leS (ab_leS (ab_leN (ab_leN (ab_leN ab_le0)))))))))
    · refine ab_iload (pc2 := 51) dX11_freest_49 rfl rfl ?_
      refine ab_if_eq (tgt := 122) (pc2 := 54) dX11_freest_51 (by decide) rfl hf (fun c9 hf => ?_) (fun c9 hf => ?_)
      · exact ab_weak (x_X11_freest_b122 ht0 hf) (ab_leS (ab_leN (ab_leN (ab_leS (ab_leS (ab_leS (ab_leN (ab_leN (ab_leN ab_le0)))))))))
      · refine ab_aload_n (x := _) (pc2 := 55) dX11_freest_54 rfl rfl ?_
        refine ab_aload_n (x := _) (pc2 := 56) dX11_freest_55 rfl rfl ?_
        obtain ⟨w10, ew10, hf⟩ := ab_bind hf
        refine ab_callV (pc2 := 59) (st := []) rfl ht0 (by decide) (m_X11_takeOrder (d := (d + 3)) ht0 T_i1 ew10) mf_X11_takeOrder tw_256 tw_255 ts_X11_takeOrder (Or.inl (by decide +kernel)) dX11_freest_56 rfl (by omega) (Nat.le_refl _) (Nat.le_refl _) rfl (Nat.le_of_ble_eq_true rfl) (ab_kPv ?_)
        refine ab_aload_n (x := _) (pc2 := 60) dX11_freest_59 rfl rfl ?_
        refine ab_getR (pc2 := 63) rfl ht0 fa_X11_25 dX11_freest_60 rfl (fun T11 => ?_)
        refine ab_iload_n (pc2 := 64) dX11_freest_63 rfl rfl ?_
        obtain ⟨q12, hq12, hf⟩ := ab_bind hf
        obtain ⟨w13, ew13, hf⟩ := ab_bind hf
        refine ab_callV (pc2 := 67) (st := []) hq12 (T11 q12 hq12) (by decide) (m_X10_leastNails (d := (d + 0)) (T11 q12 hq12) ew13) mf_X10_leastNails tw_245 tw_244 ts_X10_leastNails (Or.inl (by decide +kernel)) dX11_freest_64 rfl (by omega) (Nat.le_refl _) (Nat.le_refl _) rfl (Nat.le_of_ble_eq_true rfl) (ab_kPi ?_)
        refine ab_istore (pc2 := 69) (lo2 := [some (va_rf _), some (va_rf _), some (.int _), some (.int _), some (.int _), some (.int _), some (.int _), some (.int _), some (.int _)]) dX11_freest_67 rfl (by decide) rfl ?_
        refine ab_iload (pc2 := 71) dX11_freest_69 rfl rfl ?_
        refine ab_if_lt (tgt := 106) (pc2 := 74) dX11_freest_71 (by decide) rfl hf (fun c14 hf => ?_) (fun c14 hf => ?_)
        · exact ab_weak (x_X11_freest_b106 ht0 ih T_i1 hf) (ab_leS (ab_leS (ab_leS (ab_leS (ab_leS (ab_leS (ab_leN (ab_leS (ab_leN ab_le0)))))))))
        · refine ab_iload (pc2 := 76) dX11_freest_74 rfl rfl ?_
          refine ab_if_lt (tgt := 89) (pc2 := 79) dX11_freest_76 (by decide) rfl hf (fun c15 hf => ?_) (fun c15 hf => ?_)
          · exact ab_weak (x_X11_freest_b89 ht0 ih T_i1 hf) (ab_leS (ab_leS (ab_leS (ab_leS (ab_leN (ab_leN (ab_leN (ab_leS (ab_leS ab_le0)))))))))
          · refine ab_iload (pc2 := 81) dX11_freest_79 rfl rfl ?_
            obtain ⟨w16, ew16, hf⟩ := ab_bind hf
            refine ab_callS (pc2 := 84) (st := []) (m_J6_bitCount_0f7a4 (d := (d + 5)) ew16) mf_J6_bitCount_0f7a4 tw_202 tw_203 dX11_freest_81 rfl (by omega) (Nat.le_refl _) (Nat.le_refl _) rfl (Nat.le_of_ble_eq_true rfl) (ab_kPi ?_)
            refine ab_iload (pc2 := 86) dX11_freest_84 rfl rfl ?_
            refine ab_icmp_ge (tgt := 106) (pc2 := 89) dX11_freest_86 (by decide) rfl hf (fun c17 hf => ?_) (fun c17 hf => ?_)
            · exact ab_weak (x_X11_freest_b106 ht0 ih T_i1 hf) (ab_leS (ab_leS (ab_leS (ab_leS (ab_leS (ab_leS (ab_leN (ab_leS (ab_leN ab_le0)))))))))
            · exact ab_weak (x_X11_freest_b89 ht0 ih T_i1 hf) (ab_leS (ab_leS (ab_leS (ab_leS (ab_leN (ab_leN (ab_leN (ab_leS (ab_leS ab_le0)))))))))
set_option maxHeartbeats 4000000 in
set_option maxRecDepth 100000 in
theorem x_X11_freest_l11 {d : Nat} {t0 : Nat} {r : (Int32 × ab_HP)} (ht0 : (ab_shp t0).1 = 0) : ∀ (n : Nat) (i1 : Option Nat) (i2 : Int32) (i3 : Int32) (i4 : Int32) (i5 : Int32) (i6 : Int32) (h : ab_HP), (∀ z, i1 = some z → (ab_shp z).1 = 3) → f_X11_freest_l11 t0 n i1 i2 i3 i4 i5 i6 h = some r → ab_T mX11_freest (d + 6) 0 0 0 0 11 [some (va_rf (some t0)), some (va_rf i1), some (.int i2), some (.int i3), some (.int i4), some (.int i5), some (.int i6), none, none] [] h (ab_Pi r.1 r.2) := by
  intro n
  induction n with
  | zero =>
    intro i1 i2 i3 i4 i5 i6 h T_i1 hf
    rw [f_X11_freest_l11] at hf
    cases hf
  | succ n ih =>
    intro i1 i2 i3 i4 i5 i6 h T_i1 hf
    rw [f_X11_freest_l11] at hf
    refine ab_iload (pc2 := 13) dX11_freest_11 rfl rfl ?_
    refine ab_aload_n (x := _) (pc2 := 14) dX11_freest_13 rfl rfl ?_
    refine ab_getR (pc2 := 17) rfl ht0 fa_X11_35 dX11_freest_14 rfl (fun T1 => ?_)
    obtain ⟨q2, hq2, hf⟩ := ab_bind hf
    refine ab_alen (pc2 := 18) hq2 (Or.inl (T1 q2 hq2)) dX11_freest_17 rfl ?_
    refine ab_icmp_ge (tgt := 36) (pc2 := 21) dX11_freest_18 (by decide) rfl hf (fun c3 hf => ?_) (fun c3 hf => ?_)
    · refine ab_iconst (pc2 := 37) (v := 1) dX11_freest_36 rfl ab_k_iconst_1 ?_
      refine ab_istore (pc2 := 39) (lo2 := [some (va_rf _), some (va_rf _), some (.int _), some (.int _), some (.int _), some (.int _), some (.int _), none, none]) dX11_freest_37 rfl (by decide) rfl ?_
      refine ab_iconst (pc2 := 40) (v := 0) dX11_freest_39 rfl ab_k_iconst_0 ?_
      refine ab_istore (pc2 := 42) (lo2 := [some (va_rf _), some (va_rf _), some (.int _), some (.int _), some (.int _), some (.int _), some (.int _), some (.int _), none]) dX11_freest_40 rfl (by decide) rfl ?_
      exact ab_weak (x_X11_freest_l42 ht0 _ _ _ _ _ _ _ _ _ T_i1 hf) (ab_leS (ab_leS (ab_leS (ab_leS (ab_leS (ab_leS (ab_leS (ab_leS (ab_leN ab_le0)))))))))
    · refine ab_aload_n (x := _) (pc2 := 22) dX11_freest_21 rfl rfl ?_
      refine ab_getR (pc2 := 25) rfl ht0 fa_X11_35 dX11_freest_22 rfl (fun T4 => ?_)
      refine ab_iload (pc2 := 27) dX11_freest_25 rfl rfl ?_
      refine ab_iload (pc2 := 29) dX11_freest_27 rfl rfl ?_
      obtain ⟨q5, hq5, hf⟩ := ab_bind hf
      obtain ⟨b6, hf⟩ := ab_guard hf
      obtain ⟨h7, eh7, hf⟩ := ab_let_x hf
      refine ab_iast (pc2 := 30) hq5 (T4 q5 hq5) (ab_in_vp b6) dX11_freest_29 rfl ?_
      refine ab_topH eh7 ?_
      refine ab_iinc (pc2 := 33) (v := _ + 1) (lo2 := [some (va_rf _), some (va_rf _), some (.int _), some (.int _), some (.int _), some (.int _), some (.int _), none, none]) dX11_freest_30 rfl rfl rfl (by decide) rfl ?_
      refine ab_goto (tgt := 11) dX11_freest_33 (by decide) ?_
      exact ab_weak (ih _ _ _ _ _ _ _ T_i1 hf) (ab_leS (ab_leS (ab_leS (ab_leS (ab_leS (ab_leS (ab_leS (ab_leN (ab_leN ab_le0)))))))))
set_option maxHeartbeats 4000000 in
set_option maxRecDepth 100000 in
theorem x_X11_freest {d : Nat} {t0 : Nat} {i1 : Option Nat} {i2 : Int32} {i3 : Int32} {h : ab_HP} {r : (Int32 × ab_HP)} (ht0 : (ab_shp t0).1 = 0) (T_i1 : ∀ z, i1 = some z → (ab_shp z).1 = 3) (hf : f_X11_freest t0 i1 i2 i3 h = some r) : ab_T mX11_freest (d + 6) 0 0 0 0 0 [some (va_rf (some t0)), some (va_rf i1), some (.int i2), some (.int i3), none, none, none, none, none] [] h (ab_Pi r.1 r.2) := by
  unfold f_X11_freest at hf
  refine ab_bipush (pc2 := 2) (v := (-4)) dX11_freest_0 rfl ab_k_bipush_m4 ?_
  refine ab_istore (pc2 := 4) (lo2 := [some (va_rf _), some (va_rf _), some (.int _), some (.int _), some (.int _), none, none, none, none]) dX11_freest_2 rfl (by decide) rfl ?_
  refine ab_bipush (pc2 := 6) (v := (-4)) dX11_freest_4 rfl ab_k_bipush_m4 ?_
  refine ab_istore (pc2 := 8) (lo2 := [some (va_rf _), some (va_rf _), some (.int _), some (.int _), some (.int _), some (.int _), none, none, none]) dX11_freest_6 rfl (by decide) rfl ?_
  refine ab_iconst (pc2 := 9) (v := 0) dX11_freest_8 rfl ab_k_iconst_0 ?_
  refine ab_istore (pc2 := 11) (lo2 := [some (va_rf _), some (va_rf _), some (.int _), some (.int _), some (.int _), some (.int _), some (.int _), none, none]) dX11_freest_9 rfl (by decide) rfl ?_
  exact ab_weak (x_X11_freest_l11 ht0 _ _ _ _ _ _ _ _ T_i1 hf) (ab_leS (ab_leS (ab_leS (ab_leS (ab_leS (ab_leS (ab_leS (ab_leN (ab_leN ab_le0)))))))))
set_option maxHeartbeats 4000000 in
set_option maxRecDepth 100000 in
theorem m_X11_freest {d : Nat} {t0 : Nat} {i1 : Option Nat} {i2 : Int32} {i3 : Int32} {h : ab_HP} {r : (Int32 × ab_HP)} (ht0 : (ab_shp t0).1 = 0) (T_i1 : ∀ z, i1 = some z → (ab_shp z).1 = 3) (hf : f_X11_freest t0 i1 i2 i3 h = some r) : ab_MET mX11_freest (d + 6) 0 0 [va_rf (some t0), va_rf i1, .int i2, .int i3] h (ab_Pi r.1 r.2) := ab_met (by decide +kernel) (by decide +kernel) (by simp [ab_lo, ab_rf1, ab_cI, ab_cJ]) (by simp [ab_lo0, ab_lo, ab_rf1, ab_cI, ab_cJ, List.replicate]) (x_X11_freest ht0 T_i1 hf)
set_option maxHeartbeats 4000000 in
set_option maxRecDepth 100000 in
theorem x_X11_free {d : Nat} {t0 : Nat} {i1 : Int32} {i2 : Int32} {i3 : Int32} {h : ab_HP} {r : (Int32 × ab_HP)} (ht0 : (ab_shp t0).1 = 0) (hf : f_X11_free t0 i1 i2 i3 h = some r) : ab_T mX11_free (d + 7) 0 0 0 0 0 [some (va_rf (some t0)), some (.int i1), some (.int i2), some (.int i3), none, none] [] h (ab_Pi r.1 r.2) := by
  unfold f_X11_free at hf
  refine ab_iload_n (pc2 := 1) dX11_free_0 rfl rfl ?_
  obtain ⟨w1, ew1, hf⟩ := ab_bind hf
  refine ab_callS (pc2 := 4) (st := []) (m_X11_areMarks (d := (d + 6)) ew1) mf_X11_areMarks tw_242 tw_243 dX11_free_1 rfl (by omega) (Nat.le_refl _) (Nat.le_refl _) rfl (Nat.le_of_ble_eq_true rfl) (ab_kPb fun z2 => ?_)
  refine ab_if_eq (tgt := 16) (pc2 := 7) dX11_free_4 (by decide) rfl hf (fun c3 hf => ?_) (fun c3 hf => ?_)
  · refine ab_iconst (pc2 := 17) (v := (-1)) dX11_free_16 rfl ab_k_iconst_m1 ?_
    cases Option.some.inj hf
    exact ab_retI dX11_free_17 (Or.inl rfl) (Nat.le_refl _) (Nat.le_refl _) ⟨rfl, rfl⟩
  · refine ab_iload_n (pc2 := 8) dX11_free_7 rfl rfl ?_
    refine ab_if_lt (tgt := 16) (pc2 := 11) dX11_free_8 (by decide) rfl hf (fun c4 hf => ?_) (fun c4 hf => ?_)
    · refine ab_iconst (pc2 := 17) (v := (-1)) dX11_free_16 rfl ab_k_iconst_m1 ?_
      cases Option.some.inj hf
      exact ab_retI dX11_free_17 (Or.inl rfl) (Nat.le_refl _) (Nat.le_refl _) ⟨rfl, rfl⟩
    · refine ab_iload_n (pc2 := 12) dX11_free_11 rfl rfl ?_
      refine ab_iconst (pc2 := 13) (v := 1) dX11_free_12 rfl ab_k_iconst_1 ?_
      refine ab_icmp_le (tgt := 18) (pc2 := 16) dX11_free_13 (by decide) rfl hf (fun c5 hf => ?_) (fun c5 hf => ?_)
      · refine ab_aload_n (x := _) (pc2 := 19) dX11_free_18 rfl rfl ?_
        refine ab_iload_n (pc2 := 20) dX11_free_19 rfl rfl ?_
        obtain ⟨w6, ew6, hf⟩ := ab_bind hf
        refine ab_callV (pc2 := 23) (st := []) rfl ht0 (by decide) (m_X11_listRefusal (d := (d + 4)) ht0 ew6) mf_X11_listRefusal tw_156 tw_155 ts_X11_listRefusal (Or.inl (by decide +kernel)) dX11_free_20 rfl (by omega) (Nat.le_refl _) (Nat.le_refl _) rfl (Nat.le_of_ble_eq_true rfl) (ab_kPi ?_)
        refine ab_istore (pc2 := 25) (lo2 := [some (va_rf _), some (.int _), some (.int _), some (.int _), some (.int _), none]) dX11_free_23 rfl (by decide) rfl ?_
        refine ab_aload_n (x := _) (pc2 := 26) dX11_free_25 rfl rfl ?_
        refine ab_iload_n (pc2 := 27) dX11_free_26 rfl rfl ?_
        obtain ⟨w7, ew7, hf⟩ := ab_bind hf
        refine ab_callV (pc2 := 30) (st := []) rfl ht0 (by decide) (m_X11_shelfAt (d := (d + 6)) ht0 ew7) mf_X11_shelfAt tw_93 tw_92 ts_X11_shelfAt (Or.inl (by decide +kernel)) dX11_free_27 rfl (by omega) (Nat.le_refl _) (Nat.le_refl _) rfl (Nat.le_of_ble_eq_true rfl) (ab_kPr fun T8 => ?_)
        refine ab_astore (pc2 := 32) (lo2 := [some (va_rf _), some (.int _), some (.int _), some (.int _), some (.int _), some (va_rf _)]) dX11_free_30 rfl (by decide) rfl ?_
        refine ab_iload (pc2 := 34) dX11_free_32 rfl rfl ?_
        refine ab_if_ne (tgt := 42) (pc2 := 37) dX11_free_34 (by decide) rfl hf (fun c9 hf => ?_) (fun c9 hf => ?_)
        · refine ab_iload (pc2 := 44) dX11_free_42 rfl rfl ?_
          cases Option.some.inj hf
          exact ab_retI dX11_free_44 (Or.inl rfl) (Nat.le_refl _) (Nat.le_refl _) ⟨rfl, rfl⟩
        · refine ab_aload (x := _) (pc2 := 39) dX11_free_37 rfl rfl ?_
          refine ab_nnul (tgt := 45) (pc2 := 42) dX11_free_39 (by decide) rfl hf (fun hq10 hf => ?_) (fun q10 hq10 hf => ?_)
          · refine ab_iload (pc2 := 44) dX11_free_42 rfl rfl ?_
            cases Option.some.inj hf
            exact ab_retI dX11_free_44 (Or.inl rfl) (Nat.le_refl _) (Nat.le_refl _) ⟨rfl, rfl⟩
          · refine ab_aload (x := _) (pc2 := 47) dX11_free_45 rfl rfl ?_
            refine ab_getI (pc2 := 50) hq10 (T8 q10 hq10) fa_X11_182 (by decide) dX11_free_47 rfl ?_
            refine ab_iconst (pc2 := 51) (v := 5) dX11_free_50 rfl ab_k_iconst_5 ?_
            refine ab_icmp_le (tgt := 59) (pc2 := 54) dX11_free_51 (by decide) rfl hf (fun c11 hf => ?_) (fun c11 hf => ?_)
            · refine ab_aload_n (x := _) (pc2 := 60) dX11_free_59 rfl rfl ?_
              refine ab_aload (x := _) (pc2 := 62) dX11_free_60 rfl rfl ?_
              refine ab_iload_n (pc2 := 63) dX11_free_62 rfl rfl ?_
              refine ab_iload_n (pc2 := 64) dX11_free_63 rfl rfl ?_
              obtain ⟨w12, ew12, hf⟩ := ab_bind hf
              refine ab_callV (pc2 := 67) (st := []) rfl ht0 (by decide) (m_X11_freest (d := (d + 0)) ht0 T8 ew12) mf_X11_freest tw_262 tw_261 ts_X11_freest (Or.inl (by decide +kernel)) dX11_free_64 rfl (by omega) (Nat.le_refl _) (Nat.le_refl _) rfl (Nat.le_of_ble_eq_true rfl) (ab_kPi ?_)
              cases Option.some.inj hf
              exact ab_retI dX11_free_67 (Or.inl rfl) (Nat.le_refl _) (Nat.le_refl _) ⟨rfl, rfl⟩
            · refine ab_bipush (pc2 := 56) (v := (-13)) dX11_free_54 rfl ab_k_bipush_m13 ?_
              refine ab_goto (tgt := 67) dX11_free_56 (by decide) ?_
              cases Option.some.inj hf
              exact ab_retI dX11_free_67 (Or.inl rfl) (Nat.le_refl _) (Nat.le_refl _) ⟨rfl, rfl⟩
      · refine ab_iconst (pc2 := 17) (v := (-1)) dX11_free_16 rfl ab_k_iconst_m1 ?_
        cases Option.some.inj hf
        exact ab_retI dX11_free_17 (Or.inl rfl) (Nat.le_refl _) (Nat.le_refl _) ⟨rfl, rfl⟩
set_option maxHeartbeats 4000000 in
set_option maxRecDepth 100000 in
theorem m_X11_free {d : Nat} {t0 : Nat} {i1 : Int32} {i2 : Int32} {i3 : Int32} {h : ab_HP} {r : (Int32 × ab_HP)} (ht0 : (ab_shp t0).1 = 0) (hf : f_X11_free t0 i1 i2 i3 h = some r) : ab_MET mX11_free (d + 7) 0 0 [va_rf (some t0), .int i1, .int i2, .int i3] h (ab_Pi r.1 r.2) := ab_met (by decide +kernel) (by decide +kernel) (Nat.le_of_ble_eq_true rfl) rfl (x_X11_free ht0 hf)
set_option maxHeartbeats 4000000 in
set_option maxRecDepth 100000 in
theorem x_X11_areWorths_l13 {d : Nat}  {r : Int32}  : ∀ (n : Nat) (i0 : Option Nat) (i1 : Int32) (h : ab_HP), (∀ z, i0 = some z → (ab_shp z).1 = 3) → f_X11_areWorths_l13  n i0 i1 h = some r → ab_T mX11_areWorths (d + 2) 0 0 0 0 13 [some (va_rf i0), some (.int i1), none] [] h (ab_Pb r h) := by
  intro n
  induction n with
  | zero =>
    intro i0 i1 h T_i0 hf
    rw [f_X11_areWorths_l13] at hf
    cases hf
  | succ n ih =>
    intro i0 i1 h T_i0 hf
    rw [f_X11_areWorths_l13] at hf
    refine ab_iload_n (pc2 := 14) dX11_areWorths_13 rfl rfl ?_
    refine ab_bipush (pc2 := 16) (v := 10) dX11_areWorths_14 rfl ab_k_bipush_10 ?_
    refine ab_icmp_ge (tgt := 47) (pc2 := 19) dX11_areWorths_16 (by decide) rfl hf (fun c3 hf => ?_) (fun c3 hf => ?_)
    · refine ab_iconst (pc2 := 48) (v := 1) dX11_areWorths_47 rfl ab_k_iconst_1 ?_
      cases Option.some.inj hf
      exact ab_retI dX11_areWorths_48 (Or.inr ⟨rfl, (Or.inr rfl)⟩) (Nat.le_refl _) (Nat.le_refl _) ⟨rfl, rfl, (Or.inr rfl)⟩
    · refine ab_aload_n (x := _) (pc2 := 20) dX11_areWorths_19 rfl rfl ?_
      refine ab_iload_n (pc2 := 21) dX11_areWorths_20 rfl rfl ?_
      obtain ⟨q4, hq4, hf⟩ := ab_bind hf
      obtain ⟨w5, ew5, hf⟩ := ab_bind hf
      refine ab_callV (pc2 := 24) (st := []) hq4 (T_i0 q4 hq4) (by decide) (m_X6_read (d := (d + 0)) (T_i0 q4 hq4) ew5) mf_X6_read tw_154 tw_24 ts_X6_read (Or.inl (by decide +kernel)) dX11_areWorths_21 rfl (by omega) (Nat.le_refl _) (Nat.le_refl _) rfl (Nat.le_of_ble_eq_true rfl) (ab_kPi ?_)
      refine ab_istore_n (pc2 := 25) (lo2 := [some (va_rf _), some (.int _), some (.int _)]) dX11_areWorths_24 rfl (by decide) rfl ?_
      refine ab_iload_n (pc2 := 26) dX11_areWorths_25 rfl rfl ?_
      refine ab_sipush (pc2 := 29) (v := (-999)) dX11_areWorths_26 rfl ab_k_sipush_m999 ?_
      refine ab_icmp_lt (tgt := 39) (pc2 := 32) dX11_areWorths_29 (by decide) rfl hf (fun c6 hf => ?_) (fun c6 hf => ?_)
      · refine ab_iconst (pc2 := 40) (v := 0) dX11_areWorths_39 rfl ab_k_iconst_0 ?_
        cases Option.some.inj hf
        exact ab_retI dX11_areWorths_40 (Or.inr ⟨rfl, (Or.inl rfl)⟩) (Nat.le_refl _) (Nat.le_refl _) ⟨rfl, rfl, (Or.inl rfl)⟩
      · refine ab_iload_n (pc2 := 33) dX11_areWorths_32 rfl rfl ?_
        refine ab_sipush (pc2 := 36) (v := 999) dX11_areWorths_33 rfl ab_k_sipush_999 ?_
        refine ab_icmp_le (tgt := 41) (pc2 := 39) dX11_areWorths_36 (by decide) rfl hf (fun c7 hf => ?_) (fun c7 hf => ?_)
        · refine ab_iinc (pc2 := 44) (v := _ + 1) (lo2 := [some (va_rf _), some (.int _), some (.int _)]) dX11_areWorths_41 rfl rfl rfl (by decide) (ab_st1_rf (j := 0) rfl rfl) ?_
          refine ab_goto (tgt := 13) dX11_areWorths_44 (by decide) ?_
          exact ab_weak (ih _ _ _ T_i0 hf) (ab_leS (ab_leS (ab_leN ab_le0)))
        · refine ab_iconst (pc2 := 40) (v := 0) dX11_areWorths_39 rfl ab_k_iconst_0 ?_
          cases Option.some.inj hf
          exact ab_retI dX11_areWorths_40 (Or.inr ⟨rfl, (Or.inl rfl)⟩) (Nat.le_refl _) (Nat.le_refl _) ⟨rfl, rfl, (Or.inl rfl)⟩
set_option maxHeartbeats 4000000 in
set_option maxRecDepth 100000 in
theorem x_X11_areWorths {d : Nat} {i0 : Option Nat} {h : ab_HP} {r : Int32} (T_i0 : ∀ z, i0 = some z → (ab_shp z).1 = 3) (hf : f_X11_areWorths i0 h = some r) : ab_T mX11_areWorths (d + 2) 0 0 0 0 0 [some (va_rf i0), none, none] [] h (ab_Pb r h) := by
  unfold f_X11_areWorths at hf
  refine ab_aload_n (x := _) (pc2 := 1) dX11_areWorths_0 rfl rfl ?_
  obtain ⟨q1, hq1, hf⟩ := ab_bind hf
  refine ab_getI (pc2 := 4) hq1 (T_i0 q1 hq1) fa_X11_182 (by decide) dX11_areWorths_1 rfl ?_
  refine ab_bipush (pc2 := 6) (v := 10) dX11_areWorths_4 rfl ab_k_bipush_10 ?_
  refine ab_icmp_eq (tgt := 11) (pc2 := 9) dX11_areWorths_6 (by decide) rfl hf (fun c2 hf => ?_) (fun c2 hf => ?_)
  · refine ab_iconst (pc2 := 12) (v := 0) dX11_areWorths_11 rfl ab_k_iconst_0 ?_
    refine ab_istore_n (pc2 := 13) (lo2 := [some (va_rf _), some (.int _), none]) dX11_areWorths_12 rfl (by decide) (ab_st1_rf (j := 0) rfl rfl) ?_
    exact ab_weak (x_X11_areWorths_l13  _ _ _ _ T_i0 hf) (ab_leS (ab_leS (ab_leN ab_le0)))
  · refine ab_iconst (pc2 := 10) (v := 0) dX11_areWorths_9 rfl ab_k_iconst_0 ?_
    cases Option.some.inj hf
    exact ab_retI dX11_areWorths_10 (Or.inr ⟨rfl, (Or.inl rfl)⟩) (Nat.le_refl _) (Nat.le_refl _) ⟨rfl, rfl, (Or.inl rfl)⟩
set_option maxHeartbeats 4000000 in
set_option maxRecDepth 100000 in
theorem m_X11_areWorths {d : Nat} {i0 : Option Nat} {h : ab_HP} {r : Int32} (T_i0 : ∀ z, i0 = some z → (ab_shp z).1 = 3) (hf : f_X11_areWorths i0 h = some r) : ab_MET mX11_areWorths (d + 2) 0 0 [va_rf i0] h (ab_Pb r h) := ab_met (by decide +kernel) (by decide +kernel) (by simp [ab_lo, ab_rf1, ab_cI, ab_cJ]) (by simp [ab_lo0, ab_lo, ab_rf1, ab_cI, ab_cJ, List.replicate]) (x_X11_areWorths T_i0 hf)
set_option maxHeartbeats 4000000 in
set_option maxRecDepth 100000 in
theorem x_X11_addMoves_l3 {d : Nat} {t0 : Nat} {r : ab_HP} (ht0 : (ab_shp t0).1 = 0) : ∀ (n : Nat) (i1 : Int32) (i2 : Int32) (i3 : Int32) (i4 : Int32) (h : ab_HP), f_X11_addMoves_l3 t0 n i1 i2 i3 i4 h = some r → ab_T mX11_addMoves (d + 1) 0 0 0 0 3 [some (va_rf (some t0)), some (.int i1), some (.int i2), some (.int i3), some (.int i4)] [] h (ab_Pv r) := by
  intro n
  induction n with
  | zero =>
    intro i1 i2 i3 i4 h hf
    rw [f_X11_addMoves_l3] at hf
    cases hf
  | succ n ih =>
    intro i1 i2 i3 i4 h hf
    rw [f_X11_addMoves_l3] at hf
    refine ab_iload (pc2 := 5) dX11_addMoves_3 rfl rfl ?_
    refine ab_iload_n (pc2 := 6) dX11_addMoves_5 rfl rfl ?_
    refine ab_icmp_ge (tgt := 48) (pc2 := 9) dX11_addMoves_6 (by decide) rfl hf (fun c1 hf => ?_) (fun c1 hf => ?_)
    · cases Option.some.inj hf
      exact ab_retV dX11_addMoves_48 rfl (Nat.le_refl _) (Nat.le_refl _) ⟨rfl, rfl⟩
    · refine ab_aload_n (x := _) (pc2 := 10) dX11_addMoves_9 rfl rfl ?_
      refine ab_getR (pc2 := 13) rfl ht0 fa_X11_39 dX11_addMoves_10 rfl (fun T2 => ?_)
      refine ab_aload_n (x := _) (pc2 := 14) dX11_addMoves_13 rfl rfl ?_
      refine ab_getI (pc2 := 17) rfl ht0 fa_X11_333 (by decide) dX11_addMoves_14 rfl ?_
      refine ab_bipush (pc2 := 19) (v := 100) dX11_addMoves_17 rfl ab_k_bipush_100 ?_
      refine ab_iload (pc2 := 21) dX11_addMoves_19 rfl rfl ?_
      refine ab_imul (pc2 := 22) dX11_addMoves_21 rfl ?_
      refine ab_bipush (pc2 := 24) (v := 10) dX11_addMoves_22 rfl ab_k_bipush_10 ?_
      refine ab_iload_n (pc2 := 25) dX11_addMoves_24 rfl rfl ?_
      refine ab_imul (pc2 := 26) dX11_addMoves_25 rfl ?_
      refine ab_iadd (pc2 := 27) dX11_addMoves_26 rfl ?_
      refine ab_iload_n (pc2 := 28) dX11_addMoves_27 rfl rfl ?_
      refine ab_iadd (pc2 := 29) dX11_addMoves_28 rfl ?_
      obtain ⟨w3, ew3, hf⟩ := ab_bind hf
      refine ab_callS (pc2 := 32) (st := []) (m_X11_store (d := (d + 0)) T2 ew3) mf_X11_store tw_252 tw_169 dX11_addMoves_29 rfl (by omega) (Nat.le_refl _) (Nat.le_refl _) rfl (Nat.le_of_ble_eq_true rfl) (ab_kPv ?_)
      refine ab_aload_n (x := _) (pc2 := 33) dX11_addMoves_32 rfl rfl ?_
      refine ab_dup (pc2 := 34) dX11_addMoves_33 rfl (ab_rf1 _) ?_
      refine ab_getI (pc2 := 37) rfl ht0 fa_X11_333 (by decide) dX11_addMoves_34 rfl ?_
      refine ab_iconst (pc2 := 38) (v := 1) dX11_addMoves_37 rfl ab_k_iconst_1 ?_
      refine ab_iadd (pc2 := 39) dX11_addMoves_38 rfl ?_
      obtain ⟨h4, eh4, hf⟩ := ab_let_x hf
      refine ab_putI (pc2 := 42) rfl ht0 fa_X11_333 (Or.inl rfl) (fun z => by cases z) dX11_addMoves_39 rfl ?_
      refine ab_topH eh4 ?_
      refine ab_iinc (pc2 := 45) (v := _ + 1) (lo2 := [some (va_rf _), some (.int _), some (.int _), some (.int _), some (.int _)]) dX11_addMoves_42 rfl rfl rfl (by decide) rfl ?_
      refine ab_goto (tgt := 3) dX11_addMoves_45 (by decide) ?_
      exact ab_weak (ih _ _ _ _ _ hf) (ab_leS (ab_leS (ab_leS (ab_leS (ab_leS ab_le0)))))
set_option maxHeartbeats 4000000 in
set_option maxRecDepth 100000 in
theorem x_X11_addMoves {d : Nat} {t0 : Nat} {i1 : Int32} {i2 : Int32} {i3 : Int32} {h : ab_HP} {r : ab_HP} (ht0 : (ab_shp t0).1 = 0) (hf : f_X11_addMoves t0 i1 i2 i3 h = some r) : ab_T mX11_addMoves (d + 1) 0 0 0 0 0 [some (va_rf (some t0)), some (.int i1), some (.int i2), some (.int i3), none] [] h (ab_Pv r) := by
  unfold f_X11_addMoves at hf
  refine ab_iconst (pc2 := 1) (v := 0) dX11_addMoves_0 rfl ab_k_iconst_0 ?_
  refine ab_istore (pc2 := 3) (lo2 := [some (va_rf _), some (.int _), some (.int _), some (.int _), some (.int _)]) dX11_addMoves_1 rfl (by decide) rfl ?_
  exact ab_weak (x_X11_addMoves_l3 ht0 _ _ _ _ _ _ hf) (ab_leS (ab_leS (ab_leS (ab_leS (ab_leS ab_le0)))))
set_option maxHeartbeats 4000000 in
set_option maxRecDepth 100000 in
theorem m_X11_addMoves {d : Nat} {t0 : Nat} {i1 : Int32} {i2 : Int32} {i3 : Int32} {h : ab_HP} {r : ab_HP} (ht0 : (ab_shp t0).1 = 0) (hf : f_X11_addMoves t0 i1 i2 i3 h = some r) : ab_MET mX11_addMoves (d + 1) 0 0 [va_rf (some t0), .int i1, .int i2, .int i3] h (ab_Pv r) := ab_met (by decide +kernel) (by decide +kernel) (Nat.le_of_ble_eq_true rfl) rfl (x_X11_addMoves ht0 hf)
set_option maxHeartbeats 4000000 in
set_option maxRecDepth 100000 in
theorem x_X11_listMoves_l56 {d : Nat} {k43 : Int32 → ab_HP → Option ab_HP} {t0 : Nat} {r : ab_HP} (ht0 : (ab_shp t0).1 = 0) (hk43 : ∀ (i1 : Int32) (h : ab_HP), k43 i1 h = some r → ab_T mX11_listMoves (d + 2) 0 0 0 0 43 [some (va_rf (some t0)), some (.int i1), none] [] h (ab_Pv r)) : ∀ (n : Nat) (i1 : Int32) (i2 : Int32) (h : ab_HP), f_X11_listMoves_l56 k43 t0 n i1 i2 h = some r → ab_T mX11_listMoves (d + 2) 0 0 0 0 56 [some (va_rf (some t0)), some (.int i1), some (.int i2)] [] h (ab_Pv r) := by
  intro n
  induction n with
  | zero =>
    intro i1 i2 h hf
    rw [f_X11_listMoves_l56] at hf
    cases hf
  | succ n ih =>
    intro i1 i2 h hf
    rw [f_X11_listMoves_l56] at hf
    refine ab_iload_n (pc2 := 57) dX11_listMoves_56 rfl rfl ?_
    refine ab_aload_n (x := _) (pc2 := 58) dX11_listMoves_57 rfl rfl ?_
    refine ab_getR (pc2 := 61) rfl ht0 fa_X11_10 dX11_listMoves_58 rfl (fun T10 => ?_)
    obtain ⟨q11, hq11, hf⟩ := ab_bind hf
    refine ab_getI (pc2 := 64) hq11 (T10 q11 hq11) fa_X11_207 (by decide) dX11_listMoves_61 rfl ?_
    refine ab_icmp_ge (tgt := 85) (pc2 := 67) dX11_listMoves_64 (by decide) rfl hf (fun c12 hf => ?_) (fun c12 hf => ?_)
    · refine ab_iinc (pc2 := 88) (v := _ + 1) (lo2 := [some (va_rf _), some (.int _), some (.int _)]) dX11_listMoves_85 rfl rfl rfl (by decide) rfl ?_
      refine ab_goto (tgt := 43) dX11_listMoves_88 (by decide) ?_
      exact ab_weak (hk43 _ _ hf) (ab_leS (ab_leS (ab_leN ab_le0)))
    · refine ab_iload_n (pc2 := 68) dX11_listMoves_67 rfl rfl ?_
      refine ab_iload_n (pc2 := 69) dX11_listMoves_68 rfl rfl ?_
      refine ab_icmp_eq (tgt := 79) (pc2 := 72) dX11_listMoves_69 (by decide) rfl hf (fun c13 hf => ?_) (fun c13 hf => ?_)
      · refine ab_iinc (pc2 := 82) (v := _ + 1) (lo2 := [some (va_rf _), some (.int _), some (.int _)]) dX11_listMoves_79 rfl rfl rfl (by decide) rfl ?_
        refine ab_goto (tgt := 56) dX11_listMoves_82 (by decide) ?_
        exact ab_weak (ih _ _ _ hf) (ab_leS (ab_leS (ab_leS ab_le0)))
      · refine ab_aload_n (x := _) (pc2 := 73) dX11_listMoves_72 rfl rfl ?_
        refine ab_iload_n (pc2 := 74) dX11_listMoves_73 rfl rfl ?_
        refine ab_iload_n (pc2 := 75) dX11_listMoves_74 rfl rfl ?_
        refine ab_iconst (pc2 := 76) (v := 4) dX11_listMoves_75 rfl ab_k_iconst_4 ?_
        obtain ⟨w14, ew14, hf⟩ := ab_bind hf
        refine ab_callV (pc2 := 79) (st := []) rfl ht0 (by decide) (m_X11_addMoves (d := (d + 0)) ht0 ew14) mf_X11_addMoves tw_266 tw_265 ts_X11_addMoves (Or.inl (by decide +kernel)) dX11_listMoves_76 rfl (by omega) (Nat.le_refl _) (Nat.le_refl _) rfl (Nat.le_of_ble_eq_true rfl) (ab_kPv ?_)
        refine ab_iinc (pc2 := 82) (v := _ + 1) (lo2 := [some (va_rf _), some (.int _), some (.int _)]) dX11_listMoves_79 rfl rfl rfl (by decide) rfl ?_
        refine ab_goto (tgt := 56) dX11_listMoves_82 (by decide) ?_
        exact ab_weak (ih _ _ _ hf) (ab_leS (ab_leS (ab_leS ab_le0)))
set_option maxHeartbeats 4000000 in
set_option maxRecDepth 100000 in
theorem x_X11_listMoves_l43 {d : Nat} {t0 : Nat} {r : ab_HP} (ht0 : (ab_shp t0).1 = 0) : ∀ (n : Nat) (i1 : Int32) (h : ab_HP), f_X11_listMoves_l43 t0 n i1 h = some r → ab_T mX11_listMoves (d + 2) 0 0 0 0 43 [some (va_rf (some t0)), some (.int i1), none] [] h (ab_Pv r) := by
  intro n
  induction n with
  | zero =>
    intro i1 h hf
    rw [f_X11_listMoves_l43] at hf
    cases hf
  | succ n ih =>
    intro i1 h hf
    rw [f_X11_listMoves_l43] at hf
    refine ab_iload_n (pc2 := 44) dX11_listMoves_43 rfl rfl ?_
    refine ab_aload_n (x := _) (pc2 := 45) dX11_listMoves_44 rfl rfl ?_
    refine ab_getR (pc2 := 48) rfl ht0 fa_X11_10 dX11_listMoves_45 rfl (fun T7 => ?_)
    obtain ⟨q8, hq8, hf⟩ := ab_bind hf
    refine ab_getI (pc2 := 51) hq8 (T7 q8 hq8) fa_X11_207 (by decide) dX11_listMoves_48 rfl ?_
    refine ab_icmp_ge (tgt := 91) (pc2 := 54) dX11_listMoves_51 (by decide) rfl hf (fun c9 hf => ?_) (fun c9 hf => ?_)
    · cases Option.some.inj hf
      exact ab_retV dX11_listMoves_91 rfl (Nat.le_refl _) (Nat.le_refl _) ⟨rfl, rfl⟩
    · refine ab_iconst (pc2 := 55) (v := 0) dX11_listMoves_54 rfl ab_k_iconst_0 ?_
      refine ab_istore_n (pc2 := 56) (lo2 := [some (va_rf _), some (.int _), some (.int _)]) dX11_listMoves_55 rfl (by decide) rfl ?_
      exact ab_weak (x_X11_listMoves_l56 ht0 ih _ _ _ _ hf) (ab_leS (ab_leS (ab_leS ab_le0)))
set_option maxHeartbeats 4000000 in
set_option maxRecDepth 100000 in
theorem x_X11_listMoves_l16 {d : Nat} {t0 : Nat} {r : ab_HP} (ht0 : (ab_shp t0).1 = 0) : ∀ (n : Nat) (i1 : Int32) (h : ab_HP), f_X11_listMoves_l16 t0 n i1 h = some r → ab_T mX11_listMoves (d + 2) 0 0 0 0 16 [some (va_rf (some t0)), some (.int i1), none] [] h (ab_Pv r) := by
  intro n
  induction n with
  | zero =>
    intro i1 h hf
    rw [f_X11_listMoves_l16] at hf
    cases hf
  | succ n ih =>
    intro i1 h hf
    rw [f_X11_listMoves_l16] at hf
    refine ab_iload_n (pc2 := 17) dX11_listMoves_16 rfl rfl ?_
    refine ab_aload_n (x := _) (pc2 := 18) dX11_listMoves_17 rfl rfl ?_
    refine ab_getR (pc2 := 21) rfl ht0 fa_X11_10 dX11_listMoves_18 rfl (fun T3 => ?_)
    obtain ⟨q4, hq4, hf⟩ := ab_bind hf
    refine ab_getI (pc2 := 24) hq4 (T3 q4 hq4) fa_X11_207 (by decide) dX11_listMoves_21 rfl ?_
    refine ab_icmp_ge (tgt := 41) (pc2 := 27) dX11_listMoves_24 (by decide) rfl hf (fun c5 hf => ?_) (fun c5 hf => ?_)
    · refine ab_iconst (pc2 := 42) (v := 0) dX11_listMoves_41 rfl ab_k_iconst_0 ?_
      refine ab_istore_n (pc2 := 43) (lo2 := [some (va_rf _), some (.int _), none]) dX11_listMoves_42 rfl (by decide) rfl ?_
      exact ab_weak (x_X11_listMoves_l43 ht0 _ _ _ hf) (ab_leS (ab_leS (ab_leN ab_le0)))
    · refine ab_aload_n (x := _) (pc2 := 28) dX11_listMoves_27 rfl rfl ?_
      refine ab_iload_n (pc2 := 29) dX11_listMoves_28 rfl rfl ?_
      refine ab_bipush (pc2 := 31) (v := 9) dX11_listMoves_29 rfl ab_k_bipush_9 ?_
      refine ab_iconst (pc2 := 32) (v := 2) dX11_listMoves_31 rfl ab_k_iconst_2 ?_
      obtain ⟨w6, ew6, hf⟩ := ab_bind hf
      refine ab_callV (pc2 := 35) (st := []) rfl ht0 (by decide) (m_X11_addMoves (d := (d + 0)) ht0 ew6) mf_X11_addMoves tw_266 tw_265 ts_X11_addMoves (Or.inl (by decide +kernel)) dX11_listMoves_32 rfl (by omega) (Nat.le_refl _) (Nat.le_refl _) rfl (Nat.le_of_ble_eq_true rfl) (ab_kPv ?_)
      refine ab_iinc (pc2 := 38) (v := _ + 1) (lo2 := [some (va_rf _), some (.int _), none]) dX11_listMoves_35 rfl rfl rfl (by decide) rfl ?_
      refine ab_goto (tgt := 16) dX11_listMoves_38 (by decide) ?_
      exact ab_weak (ih _ _ hf) (ab_leS (ab_leS (ab_leN ab_le0)))
set_option maxHeartbeats 4000000 in
set_option maxRecDepth 100000 in
theorem x_X11_listMoves {d : Nat} {t0 : Nat} {h : ab_HP} {r : ab_HP} (ht0 : (ab_shp t0).1 = 0) (hf : f_X11_listMoves t0 h = some r) : ab_T mX11_listMoves (d + 2) 0 0 0 0 0 [some (va_rf (some t0)), none, none] [] h (ab_Pv r) := by
  unfold f_X11_listMoves at hf
  refine ab_aload_n (x := _) (pc2 := 1) dX11_listMoves_0 rfl rfl ?_
  refine ab_iconst (pc2 := 2) (v := 0) dX11_listMoves_1 rfl ab_k_iconst_0 ?_
  obtain ⟨h1, eh1, hf⟩ := ab_let_x hf
  refine ab_putI (pc2 := 5) rfl ht0 fa_X11_333 (Or.inl rfl) (fun z => by cases z) dX11_listMoves_2 rfl ?_
  refine ab_topH eh1 ?_
  refine ab_aload_n (x := _) (pc2 := 6) dX11_listMoves_5 rfl rfl ?_
  refine ab_bipush (pc2 := 8) (v := 9) dX11_listMoves_6 rfl ab_k_bipush_9 ?_
  refine ab_bipush (pc2 := 10) (v := 9) dX11_listMoves_8 rfl ab_k_bipush_9 ?_
  refine ab_iconst (pc2 := 11) (v := 1) dX11_listMoves_10 rfl ab_k_iconst_1 ?_
  obtain ⟨w2, ew2, hf⟩ := ab_bind hf
  refine ab_callV (pc2 := 14) (st := []) rfl ht0 (by decide) (m_X11_addMoves (d := (d + 0)) ht0 ew2) mf_X11_addMoves tw_266 tw_265 ts_X11_addMoves (Or.inl (by decide +kernel)) dX11_listMoves_11 rfl (by omega) (Nat.le_refl _) (Nat.le_refl _) rfl (Nat.le_of_ble_eq_true rfl) (ab_kPv ?_)
  refine ab_iconst (pc2 := 15) (v := 0) dX11_listMoves_14 rfl ab_k_iconst_0 ?_
  refine ab_istore_n (pc2 := 16) (lo2 := [some (va_rf _), some (.int _), none]) dX11_listMoves_15 rfl (by decide) rfl ?_
  exact ab_weak (x_X11_listMoves_l16 ht0 _ _ _ hf) (ab_leS (ab_leS (ab_leN ab_le0)))
set_option maxHeartbeats 4000000 in
set_option maxRecDepth 100000 in
theorem m_X11_listMoves {d : Nat} {t0 : Nat} {h : ab_HP} {r : ab_HP} (ht0 : (ab_shp t0).1 = 0) (hf : f_X11_listMoves t0 h = some r) : ab_MET mX11_listMoves (d + 2) 0 0 [va_rf (some t0)] h (ab_Pv r) := ab_met (by decide +kernel) (by decide +kernel) (Nat.le_of_ble_eq_true rfl) rfl (x_X11_listMoves ht0 hf)
set_option maxHeartbeats 4000000 in
set_option maxRecDepth 100000 in
theorem x_X11_playMove {d : Nat} {t0 : Nat} {i1 : Int32} {i2 : Int32} {i3 : Int32} {h : ab_HP} {r : ab_HP} (ht0 : (ab_shp t0).1 = 0) (hf : f_X11_playMove t0 i1 i2 i3 h = some r) : ab_T mX11_playMove (d + 4) 0 0 0 0 0 [some (va_rf (some t0)), some (.int i1), some (.int i2), some (.int i3)] [] h (ab_Pv r) := by
  unfold f_X11_playMove at hf
  refine ab_aload_n (x := _) (pc2 := 1) dX11_playMove_0 rfl rfl ?_
  refine ab_getR (pc2 := 4) rfl ht0 fa_X11_25 dX11_playMove_1 rfl (fun T1 => ?_)
  refine ab_aload_n (x := _) (pc2 := 5) dX11_playMove_4 rfl rfl ?_
  refine ab_getR (pc2 := 8) rfl ht0 fa_X11_10 dX11_playMove_5 rfl (fun T2 => ?_)
  obtain ⟨q3, hq3, hf⟩ := ab_bind hf
  obtain ⟨w4, ew4, hf⟩ := ab_bind hf
  refine ab_callV (pc2 := 11) (st := []) hq3 (T1 q3 hq3) (by decide) (m_X10_open (d := (d + 3)) (T1 q3 hq3) T2 ew4) mf_X10_open tw_158 tw_157 ts_X10_open (Or.inl (by decide +kernel)) dX11_playMove_8 rfl (by omega) (Nat.le_refl _) (Nat.le_refl _) rfl (Nat.le_of_ble_eq_true rfl) (ab_kPv ?_)
  refine ab_aload_n (x := _) (pc2 := 12) dX11_playMove_11 rfl rfl ?_
  refine ab_getR (pc2 := 15) rfl ht0 fa_X11_25 dX11_playMove_12 rfl (fun T5 => ?_)
  refine ab_aload_n (x := _) (pc2 := 16) dX11_playMove_15 rfl rfl ?_
  refine ab_getR (pc2 := 19) rfl ht0 fa_X11_10 dX11_playMove_16 rfl (fun T6 => ?_)
  refine ab_iload_n (pc2 := 20) dX11_playMove_19 rfl rfl ?_
  refine ab_bipush (pc2 := 22) (v := 10) dX11_playMove_20 rfl ab_k_bipush_10 ?_
  refine ab_idiv (pc2 := 23) dX11_playMove_22 rfl (by decide) ?_
  refine ab_bipush (pc2 := 25) (v := 10) dX11_playMove_23 rfl ab_k_bipush_10 ?_
  refine ab_irem (pc2 := 26) dX11_playMove_25 rfl (by decide) ?_
  obtain ⟨q7, hq7, hf⟩ := ab_bind hf
  obtain ⟨w8, ew8, hf⟩ := ab_bind hf
  refine ab_callV (pc2 := 29) (st := [_]) hq7 (T6 q7 hq7) (by decide) (m_X9_deedAt (d := (d + 3)) (T6 q7 hq7) ew8) mf_X9_deedAt tw_127 tw_18 ts_X9_deedAt (Or.inl (by decide +kernel)) dX11_playMove_26 rfl (by omega) (Nat.le_refl _) (Nat.le_refl _) rfl (Nat.le_of_ble_eq_true rfl) (ab_kPr fun T9 => ?_)
  obtain ⟨q10, hq10, hf⟩ := ab_bind hf
  obtain ⟨w11, ew11, hf⟩ := ab_bind hf
  refine ab_callV (pc2 := 32) (st := []) hq10 (T5 q10 hq10) (by decide) (m_X10_add (d := (d + 3)) (T5 q10 hq10) T9 ew11) mf_X10_add tw_160 tw_159 ts_X10_add (Or.inl (by decide +kernel)) dX11_playMove_29 rfl (by omega) (Nat.le_refl _) (Nat.le_refl _) rfl (Nat.le_of_ble_eq_true rfl) (ab_kPv ?_)
  refine ab_aload_n (x := _) (pc2 := 33) dX11_playMove_32 rfl rfl ?_
  refine ab_getR (pc2 := 36) rfl ht0 fa_X11_25 dX11_playMove_33 rfl (fun T12 => ?_)
  refine ab_aload_n (x := _) (pc2 := 37) dX11_playMove_36 rfl rfl ?_
  refine ab_getR (pc2 := 40) rfl ht0 fa_X11_10 dX11_playMove_37 rfl (fun T13 => ?_)
  refine ab_iload_n (pc2 := 41) dX11_playMove_40 rfl rfl ?_
  refine ab_bipush (pc2 := 43) (v := 10) dX11_playMove_41 rfl ab_k_bipush_10 ?_
  refine ab_irem (pc2 := 44) dX11_playMove_43 rfl (by decide) ?_
  obtain ⟨q14, hq14, hf⟩ := ab_bind hf
  obtain ⟨w15, ew15, hf⟩ := ab_bind hf
  refine ab_callV (pc2 := 47) (st := [_]) hq14 (T13 q14 hq14) (by decide) (m_X9_deedAt (d := (d + 3)) (T13 q14 hq14) ew15) mf_X9_deedAt tw_127 tw_18 ts_X9_deedAt (Or.inl (by decide +kernel)) dX11_playMove_44 rfl (by omega) (Nat.le_refl _) (Nat.le_refl _) rfl (Nat.le_of_ble_eq_true rfl) (ab_kPr fun T16 => ?_)
  obtain ⟨q17, hq17, hf⟩ := ab_bind hf
  obtain ⟨w18, ew18, hf⟩ := ab_bind hf
  refine ab_callV (pc2 := 50) (st := []) hq17 (T12 q17 hq17) (by decide) (m_X10_add (d := (d + 3)) (T12 q17 hq17) T16 ew18) mf_X10_add tw_160 tw_159 ts_X10_add (Or.inl (by decide +kernel)) dX11_playMove_47 rfl (by omega) (Nat.le_refl _) (Nat.le_refl _) rfl (Nat.le_of_ble_eq_true rfl) (ab_kPv ?_)
  refine ab_aload_n (x := _) (pc2 := 51) dX11_playMove_50 rfl rfl ?_
  refine ab_getR (pc2 := 54) rfl ht0 fa_X11_25 dX11_playMove_51 rfl (fun T19 => ?_)
  refine ab_iload_n (pc2 := 55) dX11_playMove_54 rfl rfl ?_
  refine ab_iload_n (pc2 := 56) dX11_playMove_55 rfl rfl ?_
  obtain ⟨q20, hq20, hf⟩ := ab_bind hf
  obtain ⟨w21, ew21, hf⟩ := ab_bind hf
  refine ab_callV (pc2 := 59) (st := []) hq20 (T19 q20 hq20) (by decide) (m_X10_begin (d := (d + 3)) (T19 q20 hq20) ew21) mf_X10_begin tw_233 tw_184 ts_X10_begin (Or.inl (by decide +kernel)) dX11_playMove_56 rfl (by omega) (Nat.le_refl _) (Nat.le_refl _) rfl (Nat.le_of_ble_eq_true rfl) (ab_kPv ?_)
  refine ab_aload_n (x := _) (pc2 := 60) dX11_playMove_59 rfl rfl ?_
  refine ab_getR (pc2 := 63) rfl ht0 fa_X11_25 dX11_playMove_60 rfl (fun T22 => ?_)
  refine ab_iload_n (pc2 := 64) dX11_playMove_63 rfl rfl ?_
  refine ab_bipush (pc2 := 66) (v := 100) dX11_playMove_64 rfl ab_k_bipush_100 ?_
  refine ab_idiv (pc2 := 67) dX11_playMove_66 rfl (by decide) ?_
  obtain ⟨q23, hq23, hf⟩ := ab_bind hf
  obtain ⟨w24, ew24, hf⟩ := ab_bind hf
  refine ab_callV (pc2 := 70) (st := []) hq23 (T22 q23 hq23) (by decide) (m_X10_evenYear (d := (d + 0)) (T22 q23 hq23) ew24) mf_X10_evenYear tw_234 tw_186 ts_X10_evenYear (Or.inl (by decide +kernel)) dX11_playMove_67 rfl (by omega) (Nat.le_refl _) (Nat.le_refl _) rfl (Nat.le_of_ble_eq_true rfl) (ab_kPv ?_)
  refine ab_aload_n (x := _) (pc2 := 71) dX11_playMove_70 rfl rfl ?_
  refine ab_getR (pc2 := 74) rfl ht0 fa_X11_25 dX11_playMove_71 rfl (fun T25 => ?_)
  obtain ⟨q26, hq26, hf⟩ := ab_bind hf
  obtain ⟨w27, ew27, hf⟩ := ab_bind hf
  refine ab_callV (pc2 := 77) (st := []) hq26 (T25 q26 hq26) (by decide) (m_X10_oddYear (d := (d + 0)) (T25 q26 hq26) ew27) mf_X10_oddYear tw_267 tw_188 ts_X10_oddYear (Or.inl (by decide +kernel)) dX11_playMove_74 rfl (by omega) (Nat.le_refl _) (Nat.le_refl _) rfl (Nat.le_of_ble_eq_true rfl) (ab_kPv ?_)
  cases Option.some.inj hf
  exact ab_retV dX11_playMove_77 rfl (Nat.le_refl _) (Nat.le_refl _) ⟨rfl, rfl⟩
set_option maxHeartbeats 4000000 in
set_option maxRecDepth 100000 in
theorem m_X11_playMove {d : Nat} {t0 : Nat} {i1 : Int32} {i2 : Int32} {i3 : Int32} {h : ab_HP} {r : ab_HP} (ht0 : (ab_shp t0).1 = 0) (hf : f_X11_playMove t0 i1 i2 i3 h = some r) : ab_MET mX11_playMove (d + 4) 0 0 [va_rf (some t0), .int i1, .int i2, .int i3] h (ab_Pv r) := ab_met (by decide +kernel) (by decide +kernel) (Nat.le_of_ble_eq_true rfl) rfl (x_X11_playMove ht0 hf)
set_option maxHeartbeats 4000000 in
set_option maxRecDepth 100000 in
theorem x_X11_worthOfMarks_l4 {d : Nat}  {r : Int32}  : ∀ (n : Nat) (i0 : Int32) (i1 : Option Nat) (i2 : Int32) (i3 : Int32) (h : ab_HP), (∀ z, i1 = some z → (ab_shp z).1 = 3) → f_X11_worthOfMarks_l4  n i0 i1 i2 i3 h = some r → ab_T mX11_worthOfMarks (d + 2) 0 0 0 0 4 [some (.int i0), some (va_rf i1), some (.int i2), some (.int i3)] [] h (ab_Pi r h) := by
  intro n
  induction n with
  | zero =>
    intro i0 i1 i2 i3 h T_i1 hf
    rw [f_X11_worthOfMarks_l4] at hf
    cases hf
  | succ n ih =>
    intro i0 i1 i2 i3 h T_i1 hf
    rw [f_X11_worthOfMarks_l4] at hf
    refine ab_iload_n (pc2 := 5) dX11_worthOfMarks_4 rfl rfl ?_
    refine ab_bipush (pc2 := 7) (v := 10) dX11_worthOfMarks_5 rfl ab_k_bipush_10 ?_
    refine ab_icmp_ge (tgt := 32) (pc2 := 10) dX11_worthOfMarks_7 (by decide) rfl hf (fun c1 hf => ?_) (fun c1 hf => ?_)
    · refine ab_iload_n (pc2 := 33) dX11_worthOfMarks_32 rfl rfl ?_
      cases Option.some.inj hf
      exact ab_retI dX11_worthOfMarks_33 (Or.inl rfl) (Nat.le_refl _) (Nat.le_refl _) ⟨rfl, rfl⟩
    · refine ab_iload_n (pc2 := 11) dX11_worthOfMarks_10 rfl rfl ?_
      refine ab_iload_n (pc2 := 12) dX11_worthOfMarks_11 rfl rfl ?_
      refine ab_ishr (pc2 := 13) dX11_worthOfMarks_12 rfl ?_
      refine ab_iconst (pc2 := 14) (v := 1) dX11_worthOfMarks_13 rfl ab_k_iconst_1 ?_
      refine ab_iand (pc2 := 15) dX11_worthOfMarks_14 rfl ?_
      refine ab_if_eq (tgt := 26) (pc2 := 18) dX11_worthOfMarks_15 (by decide) rfl hf (fun c2 hf => ?_) (fun c2 hf => ?_)
      · refine ab_iinc (pc2 := 29) (v := _ + 1) (lo2 := [some (.int _), some (va_rf _), some (.int _), some (.int _)]) dX11_worthOfMarks_26 rfl rfl rfl (by decide) rfl ?_
        refine ab_goto (tgt := 4) dX11_worthOfMarks_29 (by decide) ?_
        exact ab_weak (ih _ _ _ _ _ T_i1 hf) (ab_leS (ab_leS (ab_leS (ab_leS ab_le0))))
      · refine ab_iload_n (pc2 := 19) dX11_worthOfMarks_18 rfl rfl ?_
        refine ab_aload_n (x := _) (pc2 := 20) dX11_worthOfMarks_19 rfl rfl ?_
        refine ab_iload_n (pc2 := 21) dX11_worthOfMarks_20 rfl rfl ?_
        obtain ⟨q3, hq3, hf⟩ := ab_bind hf
        obtain ⟨w4, ew4, hf⟩ := ab_bind hf
        refine ab_callV (pc2 := 24) (st := [_]) hq3 (T_i1 q3 hq3) (by decide) (m_X6_read (d := (d + 0)) (T_i1 q3 hq3) ew4) mf_X6_read tw_154 tw_24 ts_X6_read (Or.inl (by decide +kernel)) dX11_worthOfMarks_21 rfl (by omega) (Nat.le_refl _) (Nat.le_refl _) rfl (Nat.le_of_ble_eq_true rfl) (ab_kPi ?_)
        refine ab_iadd (pc2 := 25) dX11_worthOfMarks_24 rfl ?_
        refine ab_istore_n (pc2 := 26) (lo2 := [some (.int _), some (va_rf _), some (.int _), some (.int _)]) dX11_worthOfMarks_25 rfl (by decide) (ab_st1_rf (j := 1) rfl rfl) ?_
        refine ab_iinc (pc2 := 29) (v := _ + 1) (lo2 := [some (.int _), some (va_rf _), some (.int _), some (.int _)]) dX11_worthOfMarks_26 rfl rfl rfl (by decide) rfl ?_
        refine ab_goto (tgt := 4) dX11_worthOfMarks_29 (by decide) ?_
        exact ab_weak (ih _ _ _ _ _ T_i1 hf) (ab_leS (ab_leS (ab_leS (ab_leS ab_le0))))
set_option maxHeartbeats 4000000 in
set_option maxRecDepth 100000 in
theorem x_X11_worthOfMarks {d : Nat} {i0 : Int32} {i1 : Option Nat} {h : ab_HP} {r : Int32} (T_i1 : ∀ z, i1 = some z → (ab_shp z).1 = 3) (hf : f_X11_worthOfMarks i0 i1 h = some r) : ab_T mX11_worthOfMarks (d + 2) 0 0 0 0 0 [some (.int i0), some (va_rf i1), none, none] [] h (ab_Pi r h) := by
  unfold f_X11_worthOfMarks at hf
  refine ab_iconst (pc2 := 1) (v := 0) dX11_worthOfMarks_0 rfl ab_k_iconst_0 ?_
  refine ab_istore_n (pc2 := 2) (lo2 := [some (.int _), some (va_rf _), some (.int _), none]) dX11_worthOfMarks_1 rfl (by decide) (ab_st1_rf (j := 1) rfl rfl) ?_
  refine ab_iconst (pc2 := 3) (v := 0) dX11_worthOfMarks_2 rfl ab_k_iconst_0 ?_
  refine ab_istore_n (pc2 := 4) (lo2 := [some (.int _), some (va_rf _), some (.int _), some (.int _)]) dX11_worthOfMarks_3 rfl (by decide) rfl ?_
  exact ab_weak (x_X11_worthOfMarks_l4  _ _ _ _ _ _ T_i1 hf) (ab_leS (ab_leS (ab_leS (ab_leS ab_le0))))
set_option maxHeartbeats 4000000 in
set_option maxRecDepth 100000 in
theorem m_X11_worthOfMarks {d : Nat} {i0 : Int32} {i1 : Option Nat} {h : ab_HP} {r : Int32} (T_i1 : ∀ z, i1 = some z → (ab_shp z).1 = 3) (hf : f_X11_worthOfMarks i0 i1 h = some r) : ab_MET mX11_worthOfMarks (d + 2) 0 0 [.int i0, va_rf i1] h (ab_Pi r h) := ab_met (by decide +kernel) (by decide +kernel) (by simp [ab_lo, ab_rf1, ab_cI, ab_cJ]) (by simp [ab_lo0, ab_lo, ab_rf1, ab_cI, ab_cJ, List.replicate]) (x_X11_worthOfMarks T_i1 hf)
set_option maxHeartbeats 4000000 in
set_option maxRecDepth 100000 in
theorem x_X11_worthOfMove_l61 {d : Nat} {t0 : Nat} {r : (Int32 × ab_HP)} (ht0 : (ab_shp t0).1 = 0) : ∀ (n : Nat) (i3 : Option Nat) (i4 : Int32) (i5 : Int32) (i6 : Int32) (i7 : Int32) (h : ab_HP), (∀ z, i3 = some z → (ab_shp z).1 = 3) → f_X11_worthOfMove_l61 t0 n i3 i4 i5 i6 i7 h = some r → ab_T mX11_worthOfMove (d + 5) 0 0 0 0 61 [some (va_rf (some t0)), none, none, some (va_rf i3), some (.int i4), some (.int i5), some (.int i6), some (.int i7)] [] h (ab_Pi r.1 r.2) := by
  intro n
  induction n with
  | zero =>
    intro i3 i4 i5 i6 i7 h T_i3 hf
    rw [f_X11_worthOfMove_l61] at hf
    cases hf
  | succ n ih =>
    intro i3 i4 i5 i6 i7 h T_i3 hf
    rw [f_X11_worthOfMove_l61] at hf
    refine ab_iload (pc2 := 63) dX11_worthOfMove_61 rfl rfl ?_
    refine ab_aload_n (x := _) (pc2 := 64) dX11_worthOfMove_63 rfl rfl ?_
    refine ab_getI (pc2 := 67) rfl ht0 fa_X11_333 (by decide) dX11_worthOfMove_64 rfl ?_
    refine ab_icmp_ge (tgt := 111) (pc2 := 70) dX11_worthOfMove_67 (by decide) rfl hf (fun c14 hf => ?_) (fun c14 hf => ?_)
    · refine ab_iload (pc2 := 113) dX11_worthOfMove_111 rfl rfl ?_
      cases Option.some.inj hf
      exact ab_retI dX11_worthOfMove_113 (Or.inl rfl) (Nat.le_refl _) (Nat.le_refl _) ⟨rfl, rfl⟩
    · refine ab_aload_n (x := _) (pc2 := 71) dX11_worthOfMove_70 rfl rfl ?_
      refine ab_aload_n (x := _) (pc2 := 72) dX11_worthOfMove_71 rfl rfl ?_
      refine ab_getR (pc2 := 75) rfl ht0 fa_X11_39 dX11_worthOfMove_72 rfl (fun T15 => ?_)
      refine ab_iload (pc2 := 77) dX11_worthOfMove_75 rfl rfl ?_
      obtain ⟨w16, ew16, hf⟩ := ab_bind hf
      refine ab_callS (pc2 := 80) (st := [_]) (m_X11_at (d := (d + 4)) T15 ew16) mf_X11_at tw_251 tw_23 dX11_worthOfMove_77 rfl (by omega) (Nat.le_refl _) (Nat.le_refl _) rfl (Nat.le_of_ble_eq_true rfl) (ab_kPi ?_)
      refine ab_iload (pc2 := 82) dX11_worthOfMove_80 rfl rfl ?_
      refine ab_iload (pc2 := 84) dX11_worthOfMove_82 rfl rfl ?_
      obtain ⟨w17, ew17, hf⟩ := ab_bind hf
      refine ab_callV (pc2 := 87) (st := []) rfl ht0 (by decide) (m_X11_playMove (d := (d + 0)) ht0 ew17) mf_X11_playMove tw_269 tw_268 ts_X11_playMove (Or.inl (by decide +kernel)) dX11_worthOfMove_84 rfl (by omega) (Nat.le_refl _) (Nat.le_refl _) rfl (Nat.le_of_ble_eq_true rfl) (ab_kPv ?_)
      refine ab_iload (pc2 := 89) dX11_worthOfMove_87 rfl rfl ?_
      refine ab_aload_n (x := _) (pc2 := 90) dX11_worthOfMove_89 rfl rfl ?_
      refine ab_getR (pc2 := 93) rfl ht0 fa_X11_25 dX11_worthOfMove_90 rfl (fun T18 => ?_)
      obtain ⟨q19, hq19, hf⟩ := ab_bind hf
      refine ab_getI (pc2 := 96) hq19 (T18 q19 hq19) fa_X11_155 (by decide) dX11_worthOfMove_93 rfl ?_
      refine ab_aload_n (x := _) (pc2 := 97) dX11_worthOfMove_96 rfl rfl ?_
      obtain ⟨w20, ew20, hf⟩ := ab_bind hf
      refine ab_callS (pc2 := 100) (st := [_]) (m_X11_worthOfMarks (d := (d + 2)) T_i3 ew20) mf_X11_worthOfMarks tw_270 tw_271 dX11_worthOfMove_97 rfl (by omega) (Nat.le_refl _) (Nat.le_refl _) rfl (Nat.le_of_ble_eq_true rfl) (ab_kPi ?_)
      refine ab_mmax (pc2 := 103) tw_272 tw_max_s tw_math tw_max_c (by omega) (Nat.le_of_ble_eq_true rfl) (Nat.le_refl _) (Nat.le_refl _) dX11_worthOfMove_100 rfl ?_
      refine ab_istore (pc2 := 105) (lo2 := [some (va_rf _), none, none, some (va_rf _), some (.int _), some (.int _), some (.int _), some (.int _)]) dX11_worthOfMove_103 rfl (by decide) (ab_st1_rf (j := 3) rfl rfl) ?_
      refine ab_iinc (pc2 := 108) (v := _ + 1) (lo2 := [some (va_rf _), none, none, some (va_rf _), some (.int _), some (.int _), some (.int _), some (.int _)]) dX11_worthOfMove_105 rfl rfl rfl (by decide) rfl ?_
      refine ab_goto (tgt := 61) dX11_worthOfMove_108 (by decide) ?_
      exact ab_weak (ih _ _ _ _ _ _ T_i3 hf) (ab_leS (ab_leN (ab_leN (ab_leS (ab_leS (ab_leS (ab_leS (ab_leS ab_le0))))))))
set_option maxHeartbeats 4000000 in
set_option maxRecDepth 100000 in
theorem x_X11_worthOfMove {d : Nat} {t0 : Nat} {i1 : Int32} {i2 : Int32} {i3 : Option Nat} {h : ab_HP} {r : (Int32 × ab_HP)} (ht0 : (ab_shp t0).1 = 0) (T_i3 : ∀ z, i3 = some z → (ab_shp z).1 = 3) (hf : f_X11_worthOfMove t0 i1 i2 i3 h = some r) : ab_T mX11_worthOfMove (d + 5) 0 0 0 0 0 [some (va_rf (some t0)), some (.int i1), some (.int i2), some (va_rf i3), none, none, none, none] [] h (ab_Pi r.1 r.2) := by
  unfold f_X11_worthOfMove at hf
  refine ab_aload_n (x := _) (pc2 := 1) dX11_worthOfMove_0 rfl rfl ?_
  refine ab_iload_n (pc2 := 2) dX11_worthOfMove_1 rfl rfl ?_
  refine ab_aload_n (x := _) (pc2 := 3) dX11_worthOfMove_2 rfl rfl ?_
  refine ab_getR (pc2 := 6) rfl ht0 fa_X11_10 dX11_worthOfMove_3 rfl (fun T1 => ?_)
  obtain ⟨q2, hq2, hf⟩ := ab_bind hf
  refine ab_getI (pc2 := 9) hq2 (T1 q2 hq2) fa_X11_94 (by decide) dX11_worthOfMove_6 rfl ?_
  refine ab_aload_n (x := _) (pc2 := 10) dX11_worthOfMove_9 rfl rfl ?_
  refine ab_getR (pc2 := 13) rfl ht0 fa_X11_10 dX11_worthOfMove_10 rfl (fun T3 => ?_)
  obtain ⟨q4, hq4, hf⟩ := ab_bind hf
  refine ab_getI (pc2 := 16) hq4 (T3 q4 hq4) fa_X11_97 (by decide) dX11_worthOfMove_13 rfl ?_
  obtain ⟨w5, ew5, hf⟩ := ab_bind hf
  refine ab_callV (pc2 := 19) (st := []) rfl ht0 (by decide) (m_X11_playMove (d := (d + 0)) ht0 ew5) mf_X11_playMove tw_269 tw_268 ts_X11_playMove (Or.inl (by decide +kernel)) dX11_worthOfMove_16 rfl (by omega) (Nat.le_refl _) (Nat.le_refl _) rfl (Nat.le_of_ble_eq_true rfl) (ab_kPv ?_)
  refine ab_aload_n (x := _) (pc2 := 20) dX11_worthOfMove_19 rfl rfl ?_
  refine ab_getR (pc2 := 23) rfl ht0 fa_X11_25 dX11_worthOfMove_20 rfl (fun T6 => ?_)
  obtain ⟨q7, hq7, hf⟩ := ab_bind hf
  refine ab_getI (pc2 := 26) hq7 (T6 q7 hq7) fa_X11_155 (by decide) dX11_worthOfMove_23 rfl ?_
  refine ab_aload_n (x := _) (pc2 := 27) dX11_worthOfMove_26 rfl rfl ?_
  obtain ⟨w8, ew8, hf⟩ := ab_bind hf
  refine ab_callS (pc2 := 30) (st := []) (m_X11_worthOfMarks (d := (d + 2)) T_i3 ew8) mf_X11_worthOfMarks tw_270 tw_271 dX11_worthOfMove_27 rfl (by omega) (Nat.le_refl _) (Nat.le_refl _) rfl (Nat.le_of_ble_eq_true rfl) (ab_kPi ?_)
  refine ab_istore (pc2 := 32) (lo2 := [some (va_rf _), some (.int _), some (.int _), some (va_rf _), some (.int _), none, none, none]) dX11_worthOfMove_30 rfl (by decide) (ab_st1_rf (j := 3) rfl rfl) ?_
  refine ab_iload_n (pc2 := 33) dX11_worthOfMove_32 rfl rfl ?_
  refine ab_iconst (pc2 := 34) (v := 1) dX11_worthOfMove_33 rfl ab_k_iconst_1 ?_
  refine ab_icmp_ne (tgt := 40) (pc2 := 37) dX11_worthOfMove_34 (by decide) rfl hf (fun c9 hf => ?_) (fun c9 hf => ?_)
  · refine ab_aload_n (x := _) (pc2 := 41) dX11_worthOfMove_40 rfl rfl ?_
    refine ab_getR (pc2 := 44) rfl ht0 fa_X11_25 dX11_worthOfMove_41 rfl (fun T10 => ?_)
    obtain ⟨q11, hq11, hf⟩ := ab_bind hf
    refine ab_getI (pc2 := 47) hq11 (T10 q11 hq11) fa_X11_155 (by decide) dX11_worthOfMove_44 rfl ?_
    refine ab_istore (pc2 := 49) (lo2 := [some (va_rf _), some (.int _), some (.int _), some (va_rf _), some (.int _), some (.int _), none, none]) dX11_worthOfMove_47 rfl (by decide) rfl ?_
    refine ab_aload_n (x := _) (pc2 := 50) dX11_worthOfMove_49 rfl rfl ?_
    refine ab_getR (pc2 := 53) rfl ht0 fa_X11_25 dX11_worthOfMove_50 rfl (fun T12 => ?_)
    obtain ⟨q13, hq13, hf⟩ := ab_bind hf
    refine ab_getI (pc2 := 56) hq13 (T12 q13 hq13) fa_X11_162 (by decide) dX11_worthOfMove_53 rfl ?_
    refine ab_istore (pc2 := 58) (lo2 := [some (va_rf _), some (.int _), some (.int _), some (va_rf _), some (.int _), some (.int _), some (.int _), none]) dX11_worthOfMove_56 rfl (by decide) rfl ?_
    refine ab_iconst (pc2 := 59) (v := 1) dX11_worthOfMove_58 rfl ab_k_iconst_1 ?_
    refine ab_istore (pc2 := 61) (lo2 := [some (va_rf _), some (.int _), some (.int _), some (va_rf _), some (.int _), some (.int _), some (.int _), some (.int _)]) dX11_worthOfMove_59 rfl (by decide) rfl ?_
    exact ab_weak (x_X11_worthOfMove_l61 ht0 _ _ _ _ _ _ _ T_i3 hf) (ab_leS (ab_leN (ab_leN (ab_leS (ab_leS (ab_leS (ab_leS (ab_leS ab_le0))))))))
  · refine ab_iload (pc2 := 39) dX11_worthOfMove_37 rfl rfl ?_
    cases Option.some.inj hf
    exact ab_retI dX11_worthOfMove_39 (Or.inl rfl) (Nat.le_refl _) (Nat.le_refl _) ⟨rfl, rfl⟩
set_option maxHeartbeats 4000000 in
set_option maxRecDepth 100000 in
theorem m_X11_worthOfMove {d : Nat} {t0 : Nat} {i1 : Int32} {i2 : Int32} {i3 : Option Nat} {h : ab_HP} {r : (Int32 × ab_HP)} (ht0 : (ab_shp t0).1 = 0) (T_i3 : ∀ z, i3 = some z → (ab_shp z).1 = 3) (hf : f_X11_worthOfMove t0 i1 i2 i3 h = some r) : ab_MET mX11_worthOfMove (d + 5) 0 0 [va_rf (some t0), .int i1, .int i2, va_rf i3] h (ab_Pi r.1 r.2) := ab_met (by decide +kernel) (by decide +kernel) (by simp [ab_lo, ab_rf1, ab_cI, ab_cJ]) (by simp [ab_lo0, ab_lo, ab_rf1, ab_cI, ab_cJ, List.replicate]) (x_X11_worthOfMove ht0 T_i3 hf)
set_option maxHeartbeats 4000000 in
set_option maxRecDepth 100000 in
theorem x_X11_endedSoBefore_l2 {d : Nat} {t0 : Nat} {r : Int32} (ht0 : (ab_shp t0).1 = 0) : ∀ (n : Nat) (i1 : Int32) (i2 : Int32) (h : ab_HP), f_X11_endedSoBefore_l2 t0 n i1 i2 h = some r → ab_T mX11_endedSoBefore (d + 1) 0 0 0 0 2 [some (va_rf (some t0)), some (.int i1), some (.int i2)] [] h (ab_Pb r h) := by
  intro n
  induction n with
  | zero =>
    intro i1 i2 h hf
    rw [f_X11_endedSoBefore_l2] at hf
    cases hf
  | succ n ih =>
    intro i1 i2 h hf
    rw [f_X11_endedSoBefore_l2] at hf
    refine ab_iload_n (pc2 := 3) dX11_endedSoBefore_2 rfl rfl ?_
    refine ab_iload_n (pc2 := 4) dX11_endedSoBefore_3 rfl rfl ?_
    refine ab_icmp_ge (tgt := 34) (pc2 := 7) dX11_endedSoBefore_4 (by decide) rfl hf (fun c1 hf => ?_) (fun c1 hf => ?_)
    · refine ab_iconst (pc2 := 35) (v := 0) dX11_endedSoBefore_34 rfl ab_k_iconst_0 ?_
      cases Option.some.inj hf
      exact ab_retI dX11_endedSoBefore_35 (Or.inr ⟨rfl, (Or.inl rfl)⟩) (Nat.le_refl _) (Nat.le_refl _) ⟨rfl, rfl, (Or.inl rfl)⟩
    · refine ab_aload_n (x := _) (pc2 := 8) dX11_endedSoBefore_7 rfl rfl ?_
      refine ab_getR (pc2 := 11) rfl ht0 fa_X11_42 dX11_endedSoBefore_8 rfl (fun T2 => ?_)
      refine ab_iload_n (pc2 := 12) dX11_endedSoBefore_11 rfl rfl ?_
      obtain ⟨w3, ew3, hf⟩ := ab_bind hf
      refine ab_callS (pc2 := 15) (st := []) (m_X11_at (d := (d + 0)) T2 ew3) mf_X11_at tw_251 tw_23 dX11_endedSoBefore_12 rfl (by omega) (Nat.le_refl _) (Nat.le_refl _) rfl (Nat.le_of_ble_eq_true rfl) (ab_kPi ?_)
      refine ab_aload_n (x := _) (pc2 := 16) dX11_endedSoBefore_15 rfl rfl ?_
      refine ab_getR (pc2 := 19) rfl ht0 fa_X11_42 dX11_endedSoBefore_16 rfl (fun T4 => ?_)
      refine ab_iload_n (pc2 := 20) dX11_endedSoBefore_19 rfl rfl ?_
      obtain ⟨w5, ew5, hf⟩ := ab_bind hf
      refine ab_callS (pc2 := 23) (st := [_]) (m_X11_at (d := (d + 0)) T4 ew5) mf_X11_at tw_251 tw_23 dX11_endedSoBefore_20 rfl (by omega) (Nat.le_refl _) (Nat.le_refl _) rfl (Nat.le_of_ble_eq_true rfl) (ab_kPi ?_)
      refine ab_icmp_ne (tgt := 28) (pc2 := 26) dX11_endedSoBefore_23 (by decide) rfl hf (fun c6 hf => ?_) (fun c6 hf => ?_)
      · refine ab_iinc (pc2 := 31) (v := _ + 1) (lo2 := [some (va_rf _), some (.int _), some (.int _)]) dX11_endedSoBefore_28 rfl rfl rfl (by decide) rfl ?_
        refine ab_goto (tgt := 2) dX11_endedSoBefore_31 (by decide) ?_
        exact ab_weak (ih _ _ _ hf) (ab_leS (ab_leS (ab_leS ab_le0)))
      · refine ab_iconst (pc2 := 27) (v := 1) dX11_endedSoBefore_26 rfl ab_k_iconst_1 ?_
        cases Option.some.inj hf
        exact ab_retI dX11_endedSoBefore_27 (Or.inr ⟨rfl, (Or.inr rfl)⟩) (Nat.le_refl _) (Nat.le_refl _) ⟨rfl, rfl, (Or.inr rfl)⟩
set_option maxHeartbeats 4000000 in
set_option maxRecDepth 100000 in
theorem x_X11_endedSoBefore {d : Nat} {t0 : Nat} {i1 : Int32} {h : ab_HP} {r : Int32} (ht0 : (ab_shp t0).1 = 0) (hf : f_X11_endedSoBefore t0 i1 h = some r) : ab_T mX11_endedSoBefore (d + 1) 0 0 0 0 0 [some (va_rf (some t0)), some (.int i1), none] [] h (ab_Pb r h) := by
  unfold f_X11_endedSoBefore at hf
  refine ab_iconst (pc2 := 1) (v := 0) dX11_endedSoBefore_0 rfl ab_k_iconst_0 ?_
  refine ab_istore_n (pc2 := 2) (lo2 := [some (va_rf _), some (.int _), some (.int _)]) dX11_endedSoBefore_1 rfl (by decide) rfl ?_
  exact ab_weak (x_X11_endedSoBefore_l2 ht0 _ _ _ _ hf) (ab_leS (ab_leS (ab_leS ab_le0)))
set_option maxHeartbeats 4000000 in
set_option maxRecDepth 100000 in
theorem m_X11_endedSoBefore {d : Nat} {t0 : Nat} {i1 : Int32} {h : ab_HP} {r : Int32} (ht0 : (ab_shp t0).1 = 0) (hf : f_X11_endedSoBefore t0 i1 h = some r) : ab_MET mX11_endedSoBefore (d + 1) 0 0 [va_rf (some t0), .int i1] h (ab_Pb r h) := ab_met (by decide +kernel) (by decide +kernel) (Nat.le_of_ble_eq_true rfl) rfl (x_X11_endedSoBefore ht0 hf)
