section LAY
theorem m_layl {d n : Nat} (hd : d < 8) (hn : n ≤ 8) (nails : Int32) : ∀ (c k : Nat) (g : ab_HP), k + c = n → ab_i g 31 24 = nI n → mp g → ∀ f, c < f → ∃ w, f_X12_lays_l12 31 f (nI d) nails (nI k) g = some w ∧ w.1 = g.1 ∧ (∀ r j, ab_r w r j = ab_r g r j) ∧ (∀ j, k ≤ j → j < n → ab_i w 42 j = ab_i g 38 (100 * d + j)) ∧ (∀ j, j < k → ab_i w 42 j = ab_i g 42 j) ∧ ab_i w 31 25 = nails ∧ ab_i w 31 26 = ab_i g 32 0 ∧ ab_i w 31 27 = ab_i g 32 1 ∧ ab_i w 31 28 = 0 ∧ ab_i w 31 29 = 0 ∧ ∀ r j, r ≠ 42 → ¬ (r = 31 ∧ 25 ≤ j ∧ j ≤ 29) → ab_i w r j = ab_i g r j
  | 0, k, g, e, h24, hp, f + 1, _ => by
    have e : k = n := by omega
    subst e
    rw [f_X12_lays_l12]
    simp only [h24]
    rw [if_pos (nI_le (Nat.le_refl _) (by omega))]
    unfold f_X12_begins
    simp only [Option.bind_some, ab_let, Option.elim_some, Option.elim_none, hr_ip, hp 0, mp_0, mp_1, mp_2, mp_3, mp_4, mp_5, mp_6, mp_7, mp_8, mp_16, mp_19, mp_20, mp_21, mp_22, mp_23, mp_32, mp_39, shp_2, shp_4, shp_6, shp_8, shp_9, shp_10, shp_11, shp_12, shp_13, shp_14, shp_32, shp_33, shp_34, shp_35, shp_36, shp_37, shp_38, shp_39, shp_40, shp_41, shp_42, shp_43, shp_44, shp_45, shp_46, shp_47, shp_48, shp_49, in_l0, in_l1, in_l2, in_l3, in_l4, in_l5, in_l6, lit_c0, lit_c1, lit_c2, lit_c3, lit_c4, lit_c5, lit_c6, Nat.reduceLT, decide_true, if_true]
    refine ⟨_, rfl, rfl, fun r j => rfl, fun j h1 h2 => by omega, ?_, ?_, ?_, ?_, ?_, ?_, ?_⟩
    · intro j _
      simp only [hi_ip]
      rw [if_neg (by omega), if_neg (by omega), if_neg (by omega), if_neg (by omega), if_neg (by omega)]
    · simp [hi_ip]
    · simp [hi_ip]
    · simp [hi_ip]
    · simp [hi_ip]
    · simp [hi_ip]
    · intro r j h1 h2
      simp only [hi_ip]
      rw [if_neg (by omega), if_neg (by omega), if_neg (by omega), if_neg (by omega), if_neg (by omega)]
  | c + 1, k, g, e, h24, hp, f + 1, hf => by
    have q : ¬ nI n ≤ nI k := nI_ge (by omega) (by omega)
    have a1 : (100 : Int32) * nI d + nI k = nI (100 * d + k) := by rw [n_lit 100, nI_mul, nI_add]
    have b1 : ab_in (nI (100 * d + k)) 800 = true := in_nI (by omega) (by decide)
    have c1 : (nI (100 * d + k)).toNatClampNeg = 100 * d + k := nI_clamp (by omega)
    have b2 : ab_in (nI k) 16 = true := in_nI (by omega) (by decide)
    have c2 : (nI k).toNatClampNeg = k := nI_clamp (by omega)
    obtain ⟨w, w0, w1, w2, w3, w4, w5, w6, w7, w8, w9, w10⟩ := m_layl hd hn nails c (k + 1) (ab_ip g 42 k (ab_i g 38 (100 * d + k))) (by omega) (by rw [hi_ip, if_neg (by omega)]; exact h24) (mp_ip hp _ _ _) f (by omega)
    rw [f_X12_lays_l12]
    simp only [h24, q, if_false, Option.bind_some, ab_let, Option.elim_some, Option.elim_none, hp 6, hp 19, mp_0, mp_1, mp_2, mp_3, mp_4, mp_5, mp_6, mp_7, mp_8, mp_16, mp_19, mp_20, mp_21, mp_22, mp_23, mp_32, mp_39, shp_2, shp_4, shp_6, shp_8, shp_9, shp_10, shp_11, shp_12, shp_13, shp_14, shp_32, shp_33, shp_34, shp_35, shp_36, shp_37, shp_38, shp_39, shp_40, shp_41, shp_42, shp_43, shp_44, shp_45, shp_46, shp_47, shp_48, shp_49, a1, b1, c1, b2, c2, if_true, nI_1]
    refine ⟨w, w0, w1, w2, ?_, ?_, w5, ?_, ?_, w8, w9, ?_⟩
    · intro j h1 h2
      by_cases e2 : j = k
      · subst e2
        rw [w4 j (by omega), hi_ip, if_pos ⟨rfl, rfl⟩]
      · rw [w3 j (by omega) h2, hi_ip, if_neg (by omega)]
    · intro j h1
      rw [w4 j (by omega), hi_ip, if_neg (by omega)]
    · rw [w6, hi_ip, if_neg (by omega)]
    · rw [w7, hi_ip, if_neg (by omega)]
    · intro r j h1 h2
      rw [w10 r j h1 h2, hi_ip, if_neg (by omega)]
  | _, _, _, _, _, _, 0, h => absurd h (Nat.not_lt_zero _)
/-- the Model's list laid -/
theorem m_lays (g : ab_HP) (hp : mp g) {d n : Nat} (hd : d < 8) (hn : n ≤ 8) (es : ab_i g 37 d = nI n) (nails : Int32) : ∃ w, f_X12_lays 31 (nI d) nails g = some w ∧ w.1 = g.1 ∧ (∀ r j, ab_r w r j = ab_r g r j) ∧ (∀ j, j < n → ab_i w 42 j = g_el g d j) ∧ ab_i w 31 24 = nI n ∧ ab_i w 31 25 = nails ∧ ab_i w 31 26 = ab_i g 32 0 ∧ ab_i w 31 27 = ab_i g 32 1 ∧ ab_i w 31 28 = 0 ∧ ab_i w 31 29 = 0 ∧ ∀ r j, r ≠ 42 → ¬ (r = 31 ∧ 24 ≤ j ∧ j ≤ 29) → ab_i w r j = ab_i g r j := by
  have q8 : ab_in (nI d) 8 = true := in_nI hd (by decide)
  have qc : (nI d).toNatClampNeg = d := nI_clamp (by omega)
  obtain ⟨w, w0, w1, w2, w3, w4, w5, w6, w7, w8, w9, w10⟩ := m_layl hd hn nails n 0 (ab_ip g 31 24 (nI n)) (by omega) (by rw [hi_ip, if_pos ⟨rfl, rfl⟩]) (mp_ip hp _ _ _) 1000 (by omega)
  rw [show nI 0 = 0 from rfl] at w0
  unfold f_X12_lays
  simp only [Option.bind_some, ab_let, Option.elim_some, Option.elim_none, hp 5, mp_0, mp_1, mp_2, mp_3, mp_4, mp_5, mp_6, mp_7, mp_8, mp_16, mp_19, mp_20, mp_21, mp_22, mp_23, mp_32, mp_39, shp_2, shp_4, shp_6, shp_8, shp_9, shp_10, shp_11, shp_12, shp_13, shp_14, shp_32, shp_33, shp_34, shp_35, shp_36, shp_37, shp_38, shp_39, shp_40, shp_41, shp_42, shp_43, shp_44, shp_45, shp_46, shp_47, shp_48, shp_49, q8, qc, if_true, es]
  refine ⟨w, w0, w1, w2, ?_, ?_, w5, ?_, ?_, w8, w9, ?_⟩
  · intro j hj
    rw [w3 j (by omega) hj, hi_ip, if_neg (by omega)]
    rfl
  · rw [w10 31 24 (by omega) (by omega), hi_ip, if_pos ⟨rfl, rfl⟩]
  · rw [w6, hi_ip, if_neg (by omega)]
  · rw [w7, hi_ip, if_neg (by omega)]
  · intro r j h1 h2
    rw [w10 r j h1 (by omega), hi_ip, if_neg (by omega)]
end LAY
