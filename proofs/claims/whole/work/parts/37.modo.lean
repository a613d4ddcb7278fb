section MODO
theorem m_odd1 (g : ab_HP) (hp : mp g) {n : Nat} {li : Nat → Nat} (hl : ml g n li) {i : Nat} (hi : i < n) (y : yS) (f : Nat) : f_X12_oddYear_l7 31 (f + 1) (nI i) (y_put g y) = f_X12_oddYear_l7 31 f (nI i - 1) (y_put g (y_odd1 (ab_i g 32) li n i y)) := by
  have hn := hl.1
  have q16 : ab_in (nI i) 16 = true := in_nI (by omega) (by decide)
  have qc : (nI i).toNatClampNeg = i := nI_clamp (by omega)
  have hge : (nI i < 0) = False := nI_lt0 (by omega)
  have hh : f_X12_isHeld 31 (nI i) (y_put g y) = some (bI (y_some (y_heldq (ab_i g 32) li y.2.2.2.2.1 y.2.2.2.2.2.1 i) (n - (i + 1)) (i + 1))) := by
    unfold f_X12_isHeld
    rw [nI_1]
    exact m_held g hp hl y hi (n - (i + 1)) (i + 1) (by omega) 1000 (by omega)
  have hset : ab_ip (y_put g y) 45 i 4 = y_put g (y.1, y.2.1, y.2.2.1, y.2.2.2.1, upd y.2.2.2.2.1 i 4, y.2.2.2.2.2) := by
    obtain ⟨so, c, p, u, F, C, A, B⟩ := y
    exact y_p45 g so c p u F C A B i 4
  rw [f_X12_oddYear_l7]
  simp only [f_X12_oddYear_b52, hge, if_false, hp 0, hp 16, hp 19, hp 20, hp 21, hp 22, hp 23, mp_0, mp_1, mp_2, mp_3, mp_4, mp_5, mp_6, mp_7, mp_8, mp_16, mp_19, mp_20, mp_21, mp_22, mp_23, mp_32, mp_39, shp_2, shp_4, shp_6, shp_8, shp_9, shp_10, shp_11, shp_12, shp_13, shp_14, shp_32, shp_33, shp_34, shp_35, shp_36, shp_37, shp_38, shp_39, shp_40, shp_41, shp_42, shp_43, shp_44, shp_45, shp_46, shp_47, shp_48, shp_49, Option.bind_some, ab_let, Option.elim_some, Option.elim_none, y_26, y_27, y_28, y_29, y_43, y_44, y_45, y_46, y_24, y_25, y_s, y_li, y_el, y_r, y_l, y_1, lit_c0, lit_c1, lit_c2, lit_c3, lit_c4, lit_c5, lit_c6, in_l0, in_l1, in_l2, in_l3, in_l4, in_l5, in_l6, Nat.reduceLT, decide_true, q16, qc, if_true, hh, bI_0, i_m1, m_undo g hp hl hi, m_fallsA g hp hl, hset, y_odd1]
  by_cases h1 : y.2.2.2.2.1 i = 1
  · simp only [h1, if_true]
    by_cases h2 : ab_i g 32 3 = 1
    · simp only [h2, if_true, true_and]
      cases y_some (y_heldq (ab_i g 32) li y.2.2.2.2.1 y.2.2.2.2.2.1 i) (n - (i + 1)) (i + 1)
      · simp only [if_true, Bool.false_eq_true, if_false]
        rw [if_neg (by decide), if_neg (by decide)]
      · simp only [if_true, Bool.true_eq_false, if_false]
    · simp only [h2, if_false, false_and]
      by_cases h3 : ab_i g 32 3 = 0
      · simp only [h3, if_true]
      · simp only [h3, if_false]
  · simp only [h1, if_false]
theorem m_odds (g : ab_HP) (hp : mp g) {n : Nat} {li : Nat → Nat} (hl : ml g n li) : ∀ (k : Nat) (y : yS), k ≤ n → ∀ f, k < f → f_X12_oddYear_l7 31 f (nI k - 1) (y_put g y) = some (y_put g (y_odds (ab_i g 32) li n k y))
  | 0, y, _, f + 1, _ => by
    rw [f_X12_oddYear_l7]
    simp only [i_neg, if_true]
    rfl
  | k + 1, y, hk, f + 1, hf => by
    rw [nI_pred, m_odd1 g hp hl (by omega), m_odds g hp hl k _ (by omega) f (by omega)]
    rfl
  | _, _, _, 0, h => absurd h (Nat.not_lt_zero _)
theorem m_pair (g : ab_HP) (hp : mp g) {n : Nat} {li : Nat → Nat} (hl : ml g n li) (y : yS) : f_X12_pairOf 31 (y_put g y) = some (y_put g (y_pair (ab_i g 32) li n (ab_i g 31 25) y)) := by
  have hn := hl.1
  unfold f_X12_pairOf f_X12_oddYear
  simp only [m_even g hp hl, Option.bind_some, y_24, hl.2.1, m_odds g hp hl n _ (Nat.le_refl _) 1000 (by omega)]
  rfl
end MODO
