section ACC
theorem i_split (N : Nat) (hN : N < 2 ^ 31) (i : Int32) : (∃ d, d < N ∧ i = nI d) ∨ (i.toInt < 0 ∨ (N : Int) ≤ i.toInt) := by
  by_cases h : 0 ≤ i.toInt ∧ i.toInt < N
  · exact Or.inl (n_in h.1 h.2)
  · exact Or.inr (by omega)
theorem nI_int {n : Nat} (h : n < 2 ^ 31) : (nI n).toInt = n := nI_toInt h
theorem l_int0 : (0 : Int32).toInt = 0 := rfl
theorem nI_m1i {N : Nat} (h : N < 2 ^ 31) : (nI N - 1).toInt = (N : Int) - 1 := by
  have e : (1 : Int32).toInt = 1 := rfl
  rw [n_sub (by rw [nI_toInt h, e]; omega) (by rw [nI_toInt h, e]; omega), nI_toInt h, e]
theorem m_isDeed (g : ab_HP) (hp : mp g) {N : Nat} (hN : N ≤ 8) (h6 : ab_i g 32 6 = nI N) (i : Int32) : f_X12_isDeed 31 i g = some (bI (decide (0 ≤ i.toInt ∧ i.toInt < N))) := by
  unfold f_X12_isDeed
  simp only [hp 0, mp_0, mp_1, mp_2, mp_3, mp_4, mp_5, mp_6, mp_7, mp_8, mp_16, mp_19, mp_20, mp_21, mp_22, mp_23, mp_32, mp_39, shp_2, shp_4, shp_6, shp_8, shp_9, shp_10, shp_11, shp_12, shp_13, shp_14, shp_32, shp_33, shp_34, shp_35, shp_36, shp_37, shp_38, shp_39, shp_40, shp_41, shp_42, shp_43, shp_44, shp_45, shp_46, shp_47, shp_48, shp_49, Option.bind_some, ab_let, Option.elim_some, Option.elim_none, in_l0, in_l1, in_l2, in_l3, in_l4, in_l5, in_l6, lit_c0, lit_c1, lit_c2, lit_c3, lit_c4, lit_c5, lit_c6, Nat.reduceLT, decide_true, if_true, h6]
  rw [is_in0 i 0 _ 0 (nI N - 1) g rfl rfl]
  have e : (0 ≤ i ∧ i ≤ nI N - 1) ↔ (0 ≤ i.toInt ∧ i.toInt < N) := by
    rw [n_le, n_le, nI_m1i (by omega), l_int0]
    omega
  rw [bI_if]
  simp only [e, Option.bind_some]
theorem m_isDeed_t (g : ab_HP) (hp : mp g) {N : Nat} (hN : N ≤ 8) (h6 : ab_i g 32 6 = nI N) {d : Nat} (hd : d < N) : f_X12_isDeed 31 (nI d) g = some 1 := by
  rw [m_isDeed g hp hN h6, decide_eq_true (by rw [nI_toInt (by omega)]; omega), bI_t]
theorem m_isDeed_f (g : ab_HP) (hp : mp g) {N : Nat} (hN : N ≤ 8) (h6 : ab_i g 32 6 = nI N) {i : Int32} (hi : i.toInt < 0 ∨ (N : Int) ≤ i.toInt) : f_X12_isDeed 31 i g = some 0 := by
  rw [m_isDeed g hp hN h6, decide_eq_false (by omega), bI_f]
theorem m_isShelf (i : Int32) (g : ab_HP) : f_X12_isShelf i g = some (bI (decide (0 ≤ i.toInt ∧ i.toInt < 8))) := by
  unfold f_X12_isShelf
  rw [is_0_7, bI_if]
  have e : (0 ≤ i ∧ i ≤ 7) ↔ (0 ≤ i.toInt ∧ i.toInt < 8) := by
    rw [n_le, n_le, l_int0, show (7 : Int32).toInt = 7 from rfl]
    omega
  simp only [e, Option.bind_some]
theorem c_deedAt9 {h : ab_HP} {t N : Nat} (hN : N ≤ 8) (h1 : ab_i h t 1 = nI N) (h0 : ab_r h t 0 = some (t + 1)) (hs : ab_shp (t + 1) = (8, 8)) {d : Nat} (hd : d < N) : f_X9_deedAt t (nI d) h = some (ab_r h (t + 1) d) := by
  have q16 : ab_in (nI d) 8 = true := in_nI (by omega) (by decide)
  have qc : (nI d).toNatClampNeg = d := nI_clamp (by omega)
  unfold f_X9_deedAt
  have g1 : ¬ nI N ≤ nI d := nI_ge hd (by omega)
  have g2 : ¬ Int32.ofNat 8 ≤ nI d := nI_ge (b := 8) (by omega) (by decide)
  simp only [nI_lt0 (show d < 2 ^ 31 by omega), if_false, h1, g1, h0, hs, Option.bind_some, ab_let, Option.elim_some, Option.elim_none, g2, q16, if_true, qc]
theorem c_deedAt9f {h : ab_HP} {t N : Nat} (hN : N ≤ 8) (h1 : ab_i h t 1 = nI N) {i : Int32} (hi : i.toInt < 0 ∨ (N : Int) ≤ i.toInt) : f_X9_deedAt t i h = some none := by
  unfold f_X9_deedAt
  by_cases e : i < 0
  · rw [if_pos e]
  · rw [if_neg e]
    have : nI N ≤ i := by
      rw [n_lt, l_int0] at e
      rw [n_le, nI_toInt (by omega)]
      omega
    rw [h1, if_pos this]
theorem c_shelf {h : ab_HP} (hc : cp h) {d : Nat} (hd : d < 8) : f_X11_shelfAt 0 (nI d) h = some (some (15 + 2 * d)) := by
  have q16 : ab_in (nI d) 8 = true := in_nI (by omega) (by decide)
  have qc : (nI d).toNatClampNeg = d := nI_clamp (by omega)
  have g2 : nI d < Int32.ofNat 8 := nI_lt (b := 8) hd (by decide)
  have e : ab_r h 11 d = some (15 + 2 * d) := hc 11 d _ (by
    unfold cp_tab
    rw [if_neg (by omega), if_neg (by omega), if_neg (by omega), if_neg (by omega), if_neg (by omega), if_pos ⟨rfl, hd⟩])
  unfold f_X11_shelfAt
  simp only [nI_lt0 (show d < 2 ^ 31 by omega), if_false, hc 0 0 1 rfl, hc 0 1 3 rfl, hc 0 2 5 rfl, hc 0 3 7 rfl, hc 0 4 11 rfl, hc 0 5 12 rfl, hc 0 6 13 rfl, hc 0 7 14 rfl, hc 1 0 2 rfl, hc 3 0 4 rfl, hc 5 0 6 rfl, hc 7 0 8 rfl, hc 7 1 9 rfl, hc 7 2 10 rfl, shp_2, shp_4, shp_6, shp_8, shp_9, shp_10, shp_11, shp_12, shp_13, shp_14, shp_32, shp_33, shp_34, shp_35, shp_36, shp_37, shp_38, shp_39, shp_40, shp_41, shp_42, shp_43, shp_44, shp_45, shp_46, shp_47, shp_48, shp_49, Option.bind_some, ab_let, Option.elim_some, Option.elim_none, g2, if_true, q16, qc, e]
theorem c_shelff {h : ab_HP} (hc : cp h) {i : Int32} (hi : i.toInt < 0 ∨ (8 : Int) ≤ i.toInt) : f_X11_shelfAt 0 i h = some none := by
  unfold f_X11_shelfAt
  by_cases e : i < 0
  · rw [if_pos e]
  · rw [if_neg e]
    have : ¬ i < Int32.ofNat 8 := by
      rw [n_lt, l_int0] at e
      rw [n_lt, show (Int32.ofNat 8).toInt = 8 from rfl]
      omega
    simp only [hc 0 0 1 rfl, hc 0 1 3 rfl, hc 0 2 5 rfl, hc 0 3 7 rfl, hc 0 4 11 rfl, hc 0 5 12 rfl, hc 0 6 13 rfl, hc 0 7 14 rfl, hc 1 0 2 rfl, hc 3 0 4 rfl, hc 5 0 6 rfl, hc 7 0 8 rfl, hc 7 1 9 rfl, hc 7 2 10 rfl, shp_2, shp_4, shp_6, shp_8, shp_9, shp_10, shp_11, shp_12, shp_13, shp_14, shp_32, shp_33, shp_34, shp_35, shp_36, shp_37, shp_38, shp_39, shp_40, shp_41, shp_42, shp_43, shp_44, shp_45, shp_46, shp_47, shp_48, shp_49, Option.bind_some, ab_let, Option.elim_some, Option.elim_none, this, if_false]
theorem sh_el {h : ab_HP} (hc : cp h) {d : Nat} (hd : d < 8) : ab_r h (15 + 2 * d) 0 = some (16 + 2 * d) := hc _ 0 _ (by
    unfold cp_tab
    rw [if_neg (by omega), if_neg (by omega), if_neg (by omega), if_neg (by omega), if_neg (by omega), if_neg (by omega), if_pos (by omega)]
    congr 1
    omega)
theorem sh_shp {d : Nat} (hd : d < 8) : ab_shp (16 + 2 * d) = (6, 100) := by
  have : ∀ d, d < 8 → ab_shp (16 + 2 * d) = (6, 100) := by decide +kernel
  exact this d hd
/-- the deed at a place of the town now -/
theorem gr_deed {h g : ab_HP} {N : Nat} (hc : cp h) (ht : tw N (ab_i g 32)) (hd : td h 1 N (ab_i g 32)) {d : Nat} (hdN : d < N) : ∃ r, f_X9_deedAt 1 (nI d) h = some (some r) ∧ r < h.1 ∧ dk h r (ab_i g 32) d := by
  obtain ⟨r, h1, h2, h3⟩ := hd.2 d hdN
  exact ⟨r, by rw [c_deedAt9 ht.1 (hd.1.1.trans ht.2.1) (hc 1 0 2 rfl) shp_2 hdN, h1], h2, h3⟩
theorem gr_deedf {h g : ab_HP} {N : Nat} (ht : tw N (ab_i g 32)) (hd : td h 1 N (ab_i g 32)) {i : Int32} (hi : i.toInt < 0 ∨ (N : Int) ≤ i.toInt) : f_X9_deedAt 1 i h = some none :=
  c_deedAt9f ht.1 (hd.1.1.trans ht.2.1) hi
/-! calls that change nothing -/
theorem q_marks : callq (f_X11_marks 0) (f_X12_marks 31) := by
  rintro h g ⟨hc, hp, h50, ⟨N, ht, hd⟩, hi, hs⟩
  unfold f_X11_marks f_X12_marks
  simp only [hc 0 0 1 rfl, hc 0 1 3 rfl, hc 0 2 5 rfl, hc 0 3 7 rfl, hc 0 4 11 rfl, hc 0 5 12 rfl, hc 0 6 13 rfl, hc 0 7 14 rfl, hc 1 0 2 rfl, hc 3 0 4 rfl, hc 5 0 6 rfl, hc 7 0 8 rfl, hc 7 1 9 rfl, hc 7 2 10 rfl, hp 0, mp_0, mp_1, mp_2, mp_3, mp_4, mp_5, mp_6, mp_7, mp_8, mp_16, mp_19, mp_20, mp_21, mp_22, mp_23, mp_32, mp_39, shp_2, shp_4, shp_6, shp_8, shp_9, shp_10, shp_11, shp_12, shp_13, shp_14, shp_32, shp_33, shp_34, shp_35, shp_36, shp_37, shp_38, shp_39, shp_40, shp_41, shp_42, shp_43, shp_44, shp_45, shp_46, shp_47, shp_48, shp_49, Option.bind_some, ab_let, Option.elim_some, Option.elim_none, in_l0, in_l1, in_l2, in_l3, in_l4, in_l5, in_l6, lit_c0, lit_c1, lit_c2, lit_c3, lit_c4, lit_c5, lit_c6, Nat.reduceLT, decide_true, if_true]
  exact ⟨_, rfl, by rw [hd.1.2.1]⟩
theorem q_rise : callq (f_X11_rise 0) (f_X12_rise 31) := by
  rintro h g ⟨hc, hp, h50, ⟨N, ht, hd⟩, hi, hs⟩
  unfold f_X11_rise f_X12_rise
  simp only [hc 0 0 1 rfl, hc 0 1 3 rfl, hc 0 2 5 rfl, hc 0 3 7 rfl, hc 0 4 11 rfl, hc 0 5 12 rfl, hc 0 6 13 rfl, hc 0 7 14 rfl, hc 1 0 2 rfl, hc 3 0 4 rfl, hc 5 0 6 rfl, hc 7 0 8 rfl, hc 7 1 9 rfl, hc 7 2 10 rfl, hp 0, mp_0, mp_1, mp_2, mp_3, mp_4, mp_5, mp_6, mp_7, mp_8, mp_16, mp_19, mp_20, mp_21, mp_22, mp_23, mp_32, mp_39, shp_2, shp_4, shp_6, shp_8, shp_9, shp_10, shp_11, shp_12, shp_13, shp_14, shp_32, shp_33, shp_34, shp_35, shp_36, shp_37, shp_38, shp_39, shp_40, shp_41, shp_42, shp_43, shp_44, shp_45, shp_46, shp_47, shp_48, shp_49, Option.bind_some, ab_let, Option.elim_some, Option.elim_none, in_l0, in_l1, in_l2, in_l3, in_l4, in_l5, in_l6, lit_c0, lit_c1, lit_c2, lit_c3, lit_c4, lit_c5, lit_c6, Nat.reduceLT, decide_true, if_true]
  exact ⟨_, rfl, by rw [hd.1.2.2.2.2.2.1]⟩
theorem q_state (i : Int32) : callq (f_X11_state 0 i) (f_X12_state 31 i) := by
  rintro h g ⟨hc, hp, h50, ⟨N, ht, hd⟩, hi, hs⟩
  unfold f_X11_state f_X12_state
  rw [is_0_3, bI_if]
  rcases i_split 4 (by decide) i with ⟨d, hd4, rfl⟩ | hn
  · have e : (0 : Int32) ≤ nI d ∧ nI d ≤ 3 := ⟨nI_pos' (by omega), nI_le (b := 3) (by omega) (by decide)⟩
    have e14 : (1 : Int32) + nI d = nI (1 + d) := nI_add 1 d
    have one0 : ((1 : Int32) = 0) = False := eq_false (by decide)
    simp only [decide_eq_true e, bI_t, hc 0 0 1 rfl, hc 0 1 3 rfl, hc 0 2 5 rfl, hc 0 3 7 rfl, hc 0 4 11 rfl, hc 0 5 12 rfl, hc 0 6 13 rfl, hc 0 7 14 rfl, hc 1 0 2 rfl, hc 3 0 4 rfl, hc 5 0 6 rfl, hc 7 0 8 rfl, hc 7 1 9 rfl, hc 7 2 10 rfl, hp 0, mp_0, mp_1, mp_2, mp_3, mp_4, mp_5, mp_6, mp_7, mp_8, mp_16, mp_19, mp_20, mp_21, mp_22, mp_23, mp_32, mp_39, shp_2, shp_4, shp_6, shp_8, shp_9, shp_10, shp_11, shp_12, shp_13, shp_14, shp_32, shp_33, shp_34, shp_35, shp_36, shp_37, shp_38, shp_39, shp_40, shp_41, shp_42, shp_43, shp_44, shp_45, shp_46, shp_47, shp_48, shp_49, Option.bind_some, ab_let, Option.elim_some, Option.elim_none, one0, if_false, e14, in_nI (show 1 + d < 47 by omega) (by decide), nI_clamp (show 1 + d < 2 ^ 31 by omega), if_true]
    rcases (by omega : d = 0 ∨ d = 1 ∨ d = 2 ∨ d = 3) with rfl | rfl | rfl | rfl
    · rw [if_pos (show nI 0 = 0 from rfl)]; exact ⟨_, rfl, by rw [hd.1.2.2.1]⟩
    · rw [if_neg (by decide), if_pos (show nI 1 = 1 from rfl)]; exact ⟨_, rfl, by rw [hd.1.2.2.2.2.2.2]⟩
    · rw [if_neg (by decide), if_neg (by decide), if_pos (show nI 2 = 2 from rfl)]; exact ⟨_, rfl, by rw [hd.1.2.2.2.1]⟩
    · rw [if_neg (by decide), if_neg (by decide), if_neg (by decide), if_pos (show nI 3 = 3 from rfl)]; exact ⟨_, rfl, by rw [hd.1.2.2.2.2.1]⟩
  · have e : ¬ ((0 : Int32) ≤ i ∧ i ≤ 3) := by
      rw [n_le, n_le, l_int0, show (3 : Int32).toInt = 3 from rfl]
      omega
    have ne : ∀ k : Nat, k < 4 → ¬ i = nI k := by
      rintro k hk rfl
      rw [nI_toInt (by omega)] at hn
      omega
    simp only [decide_eq_false e, bI_f, Option.bind_some, ab_let, Option.elim_some, Option.elim_none, if_true]
    rw [if_neg (show ¬ i = 0 from ne 0 (by decide)), if_neg (show ¬ i = 1 from ne 1 (by decide)), if_neg (show ¬ i = 2 from ne 2 (by decide)), if_neg (show ¬ i = 3 from ne 3 (by decide))]
    exact ⟨_, rfl, rfl⟩
theorem c_price1 {h : ab_HP} {N : Nat} {s : Nat → Int32} (hd : td h 1 N s) (i : Nat) : f_X9_nailCost 1 (nI i) h = some (t_price s i) := by
  unfold f_X9_nailCost t_price
  simp only [hd.1.2.2.2.2.1, hd.1.2.2.2.2.2.1]
  split <;> rfl
theorem q_nail (i : Int32) : callq (f_X11_nail 0 i) (f_X12_nail 31 i) := by
  rintro h g ⟨hc, hp, h50, ⟨N, ht, hd⟩, hi, hs⟩
  unfold f_X11_nail f_X12_nail
  rw [is_0_7, bI_if]
  rcases i_split 8 (by decide) i with ⟨d, hd4, rfl⟩ | hn
  · have e : (0 : Int32) ≤ nI d ∧ nI d ≤ 7 := ⟨nI_pos' (by omega), nI_le (b := 7) (by omega) (by decide)⟩
    have e2 : nI d < 8 := nI_lt (b := 8) hd4 (by decide)
    simp only [decide_eq_true e, bI_t, Option.bind_some, ab_let, Option.elim_some, Option.elim_none, nI_lt0 (show d < 2 ^ 31 by omega), if_false, e2, if_true, hc 0 0 1 rfl, hc 0 1 3 rfl, hc 0 2 5 rfl, hc 0 3 7 rfl, hc 0 4 11 rfl, hc 0 5 12 rfl, hc 0 6 13 rfl, hc 0 7 14 rfl, hc 1 0 2 rfl, hc 3 0 4 rfl, hc 5 0 6 rfl, hc 7 0 8 rfl, hc 7 1 9 rfl, hc 7 2 10 rfl, c_price1 hd, m_price g hp]
    rw [if_neg (by decide)]
    exact ⟨_, rfl, rfl⟩
  · have e : ¬ ((0 : Int32) ≤ i ∧ i ≤ 7) := by
      rw [n_le, n_le, l_int0, show (7 : Int32).toInt = 7 from rfl]
      omega
    simp only [decide_eq_false e, bI_f, Option.bind_some, ab_let, Option.elim_some, Option.elim_none, if_true]
    by_cases q : i < 0
    · rw [if_pos q]; exact ⟨_, rfl, rfl⟩
    · rw [if_neg q, if_neg]
      · exact ⟨_, rfl, rfl⟩
      · rw [n_lt, l_int0] at q
        rw [n_lt, show (8 : Int32).toInt = 8 from rfl]
        omega
end ACC
