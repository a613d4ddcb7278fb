section PSD
theorem in_nIL {k n : Nat} (h : k < n) (hn : n ≤ 4000) : ab_in (nI k) n = true := by
  have h1 : ¬ nI k < 0 := nI_pos (by omega)
  simp only [ab_in, nI_clamp (show k < 2 ^ 31 by omega), h, decide_true, Bool.and_true, h1, decide_false, Bool.not_false]
theorem lw_self (b : Int64) : lg_cmp b b = 0 := by unfold lg_cmp; simp
/-- the law's loop -/
theorem lw_loop (L : Nat) (hL : L ≤ 3072) (xs : Nat → Int32) : ∀ (f k : Nat) (u : ab_HP), gr u u → k ≤ L → L < k + 6 * f → ∃ w, f_L_law_l23 L xs f (some 0) (some 31) (some 49) (nI k) u = some (1, w)
  | 0, k, u, hu, h1, h2 => by exfalso; omega
  | f + 1, k, u, hu, h1, h2 => by
    have eL : (Int32.ofNat L).toInt = L := nI_toInt (n := L) (by omega)
    have e6 : (6 : Int32).toInt = 6 := rfl
    have st : ((Int32.ofNat L) - (6 : Int32) < nI k) = ((L : Int) - 6 < k) := by
      rw [n_lt, n_sub (by rw [eL, e6]; omega) (by rw [eL, e6]; omega), eL, e6, nI_toInt (n := k) (by omega)]
    by_cases q : (L : Int) - 6 < k
    · rw [f_L_law_l23, if_pos (by rw [st]; exact q)]
      exact ⟨u, rfl⟩
    have nxt : ∀ w, gr w w → ∃ z, f_L_law_l23 L xs f (some 0) (some 31) (some 49) (nI k + (6 : Int32)) w = some (1, z) := fun w hw => by
      rw [n_lit 6, nI_add]
      exact lw_loop L hL xs f (k + 6) w hw (by omega) (by omega)
    have i0 : ab_in (nI k) L = true := in_nIL (by omega) (by omega)
    have i1 : ab_in (nI k + (1 : Int32)) L = true := by rw [n_lit 1, nI_add]; exact in_nIL (by omega) (by omega)
    have i2 : ab_in (nI k + (2 : Int32)) L = true := by rw [n_lit 2, nI_add]; exact in_nIL (by omega) (by omega)
    have i3 : ab_in (nI k + (3 : Int32)) L = true := by rw [n_lit 3, nI_add]; exact in_nIL (by omega) (by omega)
    have i4 : ab_in (nI k + (4 : Int32)) L = true := by rw [n_lit 4, nI_add]; exact in_nIL (by omega) (by omega)
    have i5 : ab_in (nI k + (5 : Int32)) L = true := by rw [n_lit 5, nI_add]; exact in_nIL (by omega) (by omega)
    obtain ⟨x1, hx1⟩ : ∃ x, xs (nI k + (1 : Int32)).toNatClampNeg = x := ⟨_, rfl⟩
    obtain ⟨x2, hx2⟩ : ∃ x, xs (nI k + (2 : Int32)).toNatClampNeg = x := ⟨_, rfl⟩
    obtain ⟨x3, hx3⟩ : ∃ x, xs (nI k + (3 : Int32)).toNatClampNeg = x := ⟨_, rfl⟩
    obtain ⟨x4, hx4⟩ : ∃ x, xs (nI k + (4 : Int32)).toNatClampNeg = x := ⟨_, rfl⟩
    obtain ⟨x5, hx5⟩ : ∃ x, xs (nI k + (5 : Int32)).toNatClampNeg = x := ⟨_, rfl⟩
    rw [f_L_law_l23, if_neg (by rw [st]; exact q), if_pos i0]
    generalize (xs (nI k).toNatClampNeg) &&& (63 : Int32) = op
    by_cases c0 : op = 0
    · rw [if_pos c0]
      obtain ⟨a, v, w, e1, e2, e3, _, _⟩ := callp_use (p_town x1) hu
      simp only [i1, i2, i3, i4, i5, hx1, hx2, hx3, hx4, hx5, Option.bind_some, if_true, e1, e2]
      exact nxt w e3
    rw [if_neg c0]
    by_cases c1 : op = 1
    · rw [if_pos c1]
      obtain ⟨a, e1, e2⟩ := q_deed x1 x2 u u hu
      simp only [i1, i2, i3, i4, i5, hx1, hx2, hx3, hx4, hx5, Option.bind_some, if_true, e1, e2]
      exact nxt u hu
    rw [if_neg c1]
    by_cases c2 : op = 2
    · rw [if_pos c2]
      obtain ⟨a, e1, e2⟩ := q_marks u u hu
      simp only [i1, i2, i3, i4, i5, hx1, hx2, hx3, hx4, hx5, Option.bind_some, if_true, e1, e2]
      exact nxt u hu
    rw [if_neg c2]
    by_cases c3 : op = 3
    · rw [if_pos c3]
      obtain ⟨a, e1, e2⟩ := q_state x1 u u hu
      simp only [i1, i2, i3, i4, i5, hx1, hx2, hx3, hx4, hx5, Option.bind_some, if_true, e1, e2]
      exact nxt u hu
    rw [if_neg c3]
    by_cases c4 : op = 4
    · rw [if_pos c4]
      obtain ⟨a, e1, e2⟩ := q_rise u u hu
      simp only [i1, i2, i3, i4, i5, hx1, hx2, hx3, hx4, hx5, Option.bind_some, if_true, e1, e2]
      exact nxt u hu
    rw [if_neg c4]
    by_cases c5 : op = 5
    · rw [if_pos c5]
      obtain ⟨a, v, w, e1, e2, e3, _, _⟩ := callp_use (p_set x1 x2) hu
      simp only [i1, i2, i3, i4, i5, hx1, hx2, hx3, hx4, hx5, Option.bind_some, if_true, e1, e2]
      exact nxt w e3
    rw [if_neg c5]
    by_cases c6 : op = 6
    · rw [if_pos c6]
      obtain ⟨a, e1, e2⟩ := q_may x1 u u hu
      simp only [i1, i2, i3, i4, i5, hx1, hx2, hx3, hx4, hx5, Option.bind_some, if_true, e1, e2]
      exact nxt u hu
    rw [if_neg c6]
    by_cases c7 : op = 7
    · rw [if_pos c7]
      obtain ⟨a, v, w, e1, e2, e3, _, _⟩ := callp_use (p_pair x1 x2) hu
      simp only [i1, i2, i3, i4, i5, hx1, hx2, hx3, hx4, hx5, Option.bind_some, if_true, e1, e2]
      exact nxt w e3
    rw [if_neg c7]
    by_cases c8 : op = 8
    · rw [if_pos c8]
      obtain ⟨a, v, w, e1, e2, e3, _, _⟩ := callp_use (p_even x1) hu
      simp only [i1, i2, i3, i4, i5, hx1, hx2, hx3, hx4, hx5, Option.bind_some, if_true, e1, e2]
      exact nxt w e3
    rw [if_neg c8]
    by_cases c9 : op = 9
    · rw [if_pos c9]
      obtain ⟨a, v, w, e1, e2, e3, _, _⟩ := callp_use (p_lasts x1 x2 x3) hu
      simp only [i1, i2, i3, i4, i5, hx1, hx2, hx3, hx4, hx5, Option.bind_some, if_true, e1, e2]
      exact nxt w e3
    rw [if_neg c9]
    by_cases c10 : op = 10
    · rw [if_pos c10]
      obtain ⟨a, v, w, e1, e2, e3, _, _⟩ := callp_use (p_why x1 x2 x3) hu
      simp only [i1, i2, i3, i4, i5, hx1, hx2, hx3, hx4, hx5, Option.bind_some, if_true, e1, e2]
      exact nxt w e3
    rw [if_neg c10]
    by_cases c11 : op = 11
    · rw [if_pos c11]
      obtain ⟨a, v, w, e1, e2, e3, _, _⟩ := callp_use (p_behind x1 x2 x3) hu
      simp only [i1, i2, i3, i4, i5, hx1, hx2, hx3, hx4, hx5, Option.bind_some, if_true, e1, e2]
      exact nxt w e3
    rw [if_neg c11]
    by_cases c12 : op = 12
    · rw [if_pos c12]
      obtain ⟨a, v, w, e1, e2, e3, _, _⟩ := callp_use (p_least x1 x2 x3) hu
      simp only [i1, i2, i3, i4, i5, hx1, hx2, hx3, hx4, hx5, Option.bind_some, if_true, e1, e2]
      exact nxt w e3
    rw [if_neg c12]
    by_cases c13 : op = 13
    · rw [if_pos c13]
      obtain ⟨a, v, w, e1, e2, e3, _, _⟩ := callp_use (p_free x1 x2 x3) hu
      simp only [i1, i2, i3, i4, i5, hx1, hx2, hx3, hx4, hx5, Option.bind_some, if_true, e1, e2]
      exact nxt w e3
    rw [if_neg c13]
    by_cases c14 : op = 14
    · rw [if_pos c14]
      obtain ⟨a, v, w, e1, e2, e3, _, _⟩ := callp_use (p_plan x1 x2 x3) hu
      simp only [i1, i2, i3, i4, i5, hx1, hx2, hx3, hx4, hx5, Option.bind_some, if_true, e1, e2]
      exact nxt w e3
    rw [if_neg c14]
    by_cases c15 : op = 15
    · rw [if_pos c15]
      obtain ⟨a, e1, e2⟩ := q_ever u u hu
      simp only [i1, i2, i3, i4, i5, hx1, hx2, hx3, hx4, hx5, Option.bind_some, if_true, e1, e2]
      exact nxt u hu
    rw [if_neg c15]
    by_cases c16 : op = 16
    · rw [if_pos c16]
      obtain ⟨a, e1, e2⟩ := q_help u u hu
      simp only [i1, i2, i3, i4, i5, hx1, hx2, hx3, hx4, hx5, Option.bind_some, if_true, e1, e2]
      exact nxt u hu
    rw [if_neg c16]
    by_cases c17 : op = 17
    · rw [if_pos c17]
      obtain ⟨a, v, w, e1, e2, e3, _, _⟩ := callp_use (p_two x1 x2 x3 x4 x5) hu
      simp only [i1, i2, i3, i4, i5, hx1, hx2, hx3, hx4, hx5, Option.bind_some, if_true, e1, e2]
      exact nxt w e3
    rw [if_neg c17]
    by_cases c18 : op = 18
    · rw [if_pos c18]
      obtain ⟨a, e1, e2⟩ := q_month u u hu
      simp only [i1, i2, i3, i4, i5, hx1, hx2, hx3, hx4, hx5, Option.bind_some, if_true, e1, e2]
      exact nxt u hu
    rw [if_neg c18]
    by_cases c19 : op = 19
    · rw [if_pos c19]
      obtain ⟨a, e1, e2⟩ := q_nail x1 u u hu
      simp only [i1, i2, i3, i4, i5, hx1, hx2, hx3, hx4, hx5, Option.bind_some, if_true, e1, e2]
      exact nxt u hu
    rw [if_neg c19]
    by_cases c20 : op = 20
    · rw [if_pos c20]
      obtain ⟨a, v, w, e1, e2, e3, _, _⟩ := callp_use (p_byLaw x1 x2 x3) hu
      simp only [i1, i2, i3, i4, i5, hx1, hx2, hx3, hx4, hx5, Option.bind_some, if_true, e1, e2]
      exact nxt w e3
    rw [if_neg c20]
    by_cases c21 : op = 21
    · rw [if_pos c21]
      obtain ⟨a, v, w, e1, e2, e3, _, _⟩ := callp_use (p_seeded x1 x2 x3) hu
      simp only [i1, i2, i3, i4, i5, hx1, hx2, hx3, hx4, hx5, Option.bind_some, if_true, e1, e2]
      exact nxt w e3
    rw [if_neg c21]
    by_cases c22 : op = 22
    · rw [if_pos c22]
      obtain ⟨a, v, w, e1, e2, e3, _, _⟩ := callp_use (p_judge x1 x2 x3) hu
      simp only [i1, i2, i3, i4, i5, hx1, hx2, hx3, hx4, hx5, Option.bind_some, if_true, e1, e2]
      exact nxt w e3
    rw [if_neg c22]
    by_cases c23 : op = 23
    · rw [if_pos c23]
      obtain ⟨a, v, w, e1, e2, e3, _, _⟩ := callp_use (p_image) hu
      simp only [i1, i2, i3, i4, i5, hx1, hx2, hx3, hx4, hx5, Option.bind_some, if_true, e1, e2]
      exact nxt w e3
    rw [if_neg c23]
    by_cases c24 : op = 24
    · rw [if_pos c24]
      obtain ⟨a, v, w, e1, e2, e3, _, _⟩ := callp_use (p_restore) hu
      simp only [i1, i2, i3, i4, i5, hx1, hx2, hx3, hx4, hx5, Option.bind_some, if_true, e1, e2]
      exact nxt w e3
    rw [if_neg c24]
    by_cases c25 : op = 25
    · rw [if_pos c25]
      obtain ⟨a, e1, e2⟩ := q_count x1 u u hu
      simp only [i1, i2, i3, i4, i5, hx1, hx2, hx3, hx4, hx5, Option.bind_some, if_true, e1, e2]
      exact nxt u hu
    rw [if_neg c25]
    by_cases c26 : op = 26
    · rw [if_pos c26]
      obtain ⟨a, v, w, e1, e2, e3, _, _⟩ := callp_use (p_keep x1 x2 x3) hu
      simp only [i1, i2, i3, i4, i5, hx1, hx2, hx3, hx4, hx5, Option.bind_some, if_true, e1, e2]
      exact nxt w e3
    rw [if_neg c26]
    by_cases c27 : op = 27
    · rw [if_pos c27]
      obtain ⟨a, v, w, e1, e2, e3, _, _⟩ := callp_use (p_row x1 x2 x3) hu
      simp only [i1, i2, i3, i4, i5, hx1, hx2, hx3, hx4, hx5, Option.bind_some, if_true, e1, e2]
      exact nxt w e3
    rw [if_neg c27]
    by_cases c28 : op = 28
    · rw [if_pos c28]
      obtain ⟨a, v, w, e1, e2, e3, _, _⟩ := callp_use (p_put x1 x2 x3) hu
      simp only [i1, i2, i3, i4, i5, hx1, hx2, hx3, hx4, hx5, Option.bind_some, if_true, e1, e2]
      exact nxt w e3
    rw [if_neg c28]
    by_cases c29 : op = 29
    · rw [if_pos c29]
      obtain ⟨kk, v, b, w, e1, e2, e3, e4, e5⟩ := p_elem x1 x2 hu
      by_cases z : kk = 0
      · have e6' := e5 z
        simp only [i1, i2, i3, i4, i5, hx1, hx2, hx3, hx4, hx5, Option.bind_some, if_true, e1, e2, f_X12_thrown, e4, z, shp_49, show ab_in 0 1 = true from rfl, lit_c0, e6', lw_self]
        exact nxt w e3
      · simp only [i1, i2, i3, i4, i5, hx1, hx2, hx3, hx4, hx5, Option.bind_some, if_true, e1, e2, f_X12_thrown, e4, z, if_false]
        exact nxt w e3
    rw [if_neg c29]
    by_cases c30 : op = 30
    · rw [if_pos c30]
      obtain ⟨a, v, w, e1, e2, e3, _, _⟩ := callp_use (p_copy x1 x2 x3 x4 x5) hu
      simp only [i1, i2, i3, i4, i5, hx1, hx2, hx3, hx4, hx5, Option.bind_some, if_true, e1, e2]
      exact nxt w e3
    rw [if_neg c30]
    by_cases c31 : op = 31
    · rw [if_pos c31]
      obtain ⟨a, e1, e2⟩ := q_care x1 u u hu
      simp only [i1, i2, i3, i4, i5, hx1, hx2, hx3, hx4, hx5, Option.bind_some, if_true, e1, e2]
      exact nxt u hu
    rw [if_neg c31]
    by_cases c32 : op = 32
    · rw [if_pos c32]
      obtain ⟨a, e1, e2⟩ := p_toss x1 u u hu
      simp only [i1, i2, i3, i4, i5, hx1, hx2, hx3, hx4, hx5, Option.bind_some, if_true, e1, e2]
      exact nxt u hu
    rw [if_neg c32]
    exact nxt u hu
end PSD
