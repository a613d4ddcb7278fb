section MODPP
def ml (g : ab_HP) (n : Nat) (li : Nat → Nat) : Prop := n ≤ 16 ∧ ab_i g 31 24 = nI n ∧ ∀ i, i < n → ab_i g 42 i = nI (li i) ∧ li i < 8
theorem i_m1 (a : Int32) : a + (-1) = a - 1 := (Int32.sub_eq_add_neg a 1).symm
theorem i_neg : ((nI 0 - 1 : Int32) < 0) = True := eq_true (by decide)
theorem m_evens (g : ab_HP) (hp : mp g) {n : Nat} {li : Nat → Nat} (hl : ml g n li) (y : yS) : ∀ (k i : Nat), i + k = n → ∀ f, k < f → f_X12_evenYear_l2 31 f (nI i) (y_put g (y_evens (ab_i g 32) li (ab_i g 31 25) i y)) = some (y_put g (y_evens (ab_i g 32) li (ab_i g 31 25) n y))
  | 0, i, e, f + 1, _ => by
    have e : i = n := by omega
    subst e
    rw [f_X12_evenYear_l2]
    simp only [y_24, hl.2.1]
    rw [if_pos (nI_le (Nat.le_refl _) (by have := hl.1; omega))]
  | k + 1, i, e, f + 1, hf => by
    rw [m_even1 g hp hl.1 hl.2.1 hl.2.2 (show i < n by omega)]
    exact m_evens g hp hl y k (i + 1) (by omega) f (by omega)
  | _, _, _, 0, h => absurd h (Nat.not_lt_zero _)
theorem m_even (g : ab_HP) (hp : mp g) {n : Nat} {li : Nat → Nat} (hl : ml g n li) (y : yS) : f_X12_evenYear 31 (y_put g y) = some (y_put g (y_evens (ab_i g 32) li (ab_i g 31 25) n y)) :=
  m_evens g hp hl y n 0 (by omega) 1000 (by have := hl.1; omega)
theorem m_undo (g : ab_HP) (hp : mp g) {n : Nat} {li : Nat → Nat} (hl : ml g n li) {i : Nat} (hi : i < n) (how : Int32) (y : yS) : f_X12_undoes 31 (nI i) how (y_put g y) = some (y_put g (y_undo (ab_i g 32) li i how y)) := by
  obtain ⟨so, c, p, u, F, C, A, B⟩ := y
  have hd := (hl.2.2 i hi).2
  have ei := (hl.2.2 i hi).1
  have hn := hl.1
  have q16 : ab_in (nI i) 16 = true := in_nI (by omega) (by decide)
  have qc : (nI i).toNatClampNeg = i := nI_clamp (by omega)
  unfold f_X12_undoes
  simp only [hp 0, hp 16, hp 19, hp 20, hp 21, hp 22, hp 23, mp_0, mp_1, mp_2, mp_3, mp_4, mp_5, mp_6, mp_7, mp_8, mp_16, mp_19, mp_20, mp_21, mp_22, mp_23, mp_32, mp_39, shp_2, shp_4, shp_6, shp_8, shp_9, shp_10, shp_11, shp_12, shp_13, shp_14, shp_32, shp_33, shp_34, shp_35, shp_36, shp_37, shp_38, shp_39, shp_40, shp_41, shp_42, shp_43, shp_44, shp_45, shp_46, shp_47, shp_48, shp_49, Option.bind_some, ab_let, Option.elim_some, Option.elim_none, y_26, y_27, y_28, y_29, y_43, y_44, y_45, y_46, y_24, y_25, y_s, y_li, y_el, y_r, y_l, y_1, y_p26, y_p27, y_p28, y_p29, y_p43, y_p44, y_p45, y_p46, q16, if_true, qc, ei, m_back _ (mp_y hp _) hd, y_sf, y_undo]
  split
  · rfl
  · rfl
theorem m_held (g : ab_HP) (hp : mp g) {n : Nat} {li : Nat → Nat} (hl : ml g n li) (y : yS) {i : Nat} (hi : i < n) : ∀ (c k : Nat), k + c = n → ∀ f, c < f → f_X12_isHeld_l4 31 f (nI i) (nI k) (y_put g y) = some (bI (y_some (y_heldq (ab_i g 32) li y.2.2.2.2.1 y.2.2.2.2.2.1 i) c k))
  | 0, k, e, f + 1, _ => by
    have e : k = n := by omega
    subst e
    rw [f_X12_isHeld_l4]
    simp only [y_24, hl.2.1]
    rw [if_pos (nI_le (Nat.le_refl _) (by have := hl.1; omega))]
    rfl
  | c + 1, k, e, f + 1, hf => by
    have hk : k < n := by omega
    have hn := hl.1
    have hd := (hl.2.2 k hk).2
    have ei := (hl.2.2 k hk).1
    have hnl : ¬ nI n ≤ nI k := nI_ge hk (by omega)
    have q16 : ab_in (nI i) 16 = true := in_nI (by omega) (by decide)
    have qc : (nI i).toNatClampNeg = i := nI_clamp (by omega)
    have q16' : ab_in (nI k) 16 = true := in_nI (by omega) (by decide)
    have qc' : (nI k).toNatClampNeg = k := nI_clamp (by omega)
    have ih := m_held g hp hl y hi c (k + 1) (by omega) f (by omega)
    rw [f_X12_isHeld_l4]
    simp only [hp 0, hp 16, hp 19, hp 20, hp 21, hp 22, hp 23, mp_0, mp_1, mp_2, mp_3, mp_4, mp_5, mp_6, mp_7, mp_8, mp_16, mp_19, mp_20, mp_21, mp_22, mp_23, mp_32, mp_39, shp_2, shp_4, shp_6, shp_8, shp_9, shp_10, shp_11, shp_12, shp_13, shp_14, shp_32, shp_33, shp_34, shp_35, shp_36, shp_37, shp_38, shp_39, shp_40, shp_41, shp_42, shp_43, shp_44, shp_45, shp_46, shp_47, shp_48, shp_49, Option.bind_some, ab_let, Option.elim_some, Option.elim_none, y_26, y_27, y_28, y_29, y_43, y_44, y_45, y_46, y_24, y_25, y_s, y_li, y_el, y_r, y_l, y_1, q16, qc, q16', qc', if_true, hl.2.1, hnl, if_false, m_hold _ (mp_y hp _) (show k < 16 by omega), m_get1 _ (mp_y hp _) hd, y_sf, y_ff, ei, bI_0, nI_1, ih, y_some, y_heldq]
    cases y_hold y.2.2.2.2.1 k
    · simp only [if_true, Bool.false_and, Bool.false_or]
    · by_cases h : t_g (ab_i g 32) (li k) 1 &&& y.2.2.2.2.2.1 i = 0
      · simp only [if_true, Bool.true_eq_false, if_false, h, decide_true, Bool.not_true, Bool.and_false, Bool.false_or]
      · simp only [if_true, Bool.true_eq_false, if_false, h, decide_false, Bool.not_false, Bool.and_true, Bool.true_or, bI_t]
  | _, _, _, 0, h => absurd h (Nat.not_lt_zero _)
theorem m_fallp (g : ab_HP) (hp : mp g) {n : Nat} {li : Nat → Nat} (hl : ml g n li) (k2 : Int32 → ab_HP → Option ab_HP) : ∀ (k : Nat) (m : Bool) (y : yS), k ≤ n → ∀ f, k < f → f_X12_falls_l15 k2 31 f (bI m) (nI k - 1) (y_put g y) = k2 (bI (y_fallp (ab_i g 32) li k m y).1) (y_put g (y_fallp (ab_i g 32) li k m y).2)
  | 0, m, y, _, f + 1, _ => by
    rw [f_X12_falls_l15]
    simp only [i_neg, if_true]
    rfl
  | k + 1, m, y, hk, f + 1, hf => by
    have hn := hl.1
    have hd := (hl.2.2 k (by omega)).2
    have ei := (hl.2.2 k (by omega)).1
    have q16' : ab_in (nI k) 16 = true := in_nI (by omega) (by decide)
    have qc' : (nI k).toNatClampNeg = k := nI_clamp (by omega)
    have hge : (nI k < 0) = False := nI_lt0 (by omega)
    have ih1 := fun m y => m_fallp g hp hl k2 k m y (by omega) f (by omega)
    have ih2 := ih1 true
    rw [bI_t] at ih2
    rw [f_X12_falls_l15]
    simp only [nI_pred, hge, if_false, hp 0, hp 16, hp 19, hp 20, hp 21, hp 22, hp 23, mp_0, mp_1, mp_2, mp_3, mp_4, mp_5, mp_6, mp_7, mp_8, mp_16, mp_19, mp_20, mp_21, mp_22, mp_23, mp_32, mp_39, shp_2, shp_4, shp_6, shp_8, shp_9, shp_10, shp_11, shp_12, shp_13, shp_14, shp_32, shp_33, shp_34, shp_35, shp_36, shp_37, shp_38, shp_39, shp_40, shp_41, shp_42, shp_43, shp_44, shp_45, shp_46, shp_47, shp_48, shp_49, Option.bind_some, ab_let, Option.elim_some, Option.elim_none, y_26, y_27, y_28, y_29, y_43, y_44, y_45, y_46, y_24, y_25, y_s, y_li, y_el, y_r, y_l, y_1, q16', qc', if_true, m_hold _ (mp_y hp _) (show k < 16 by omega), m_get1 _ (mp_y hp _) hd, y_sf, y_ff, ei, bI_0, i_m1, ih1, ih2, m_undo g hp hl (show k < n by omega), y_fallp, t_lack]
    cases y_hold y.2.2.2.2.1 k
    · simp only [if_true, Bool.false_eq_true, false_and, if_false]
    · by_cases h : t_g (ab_i g 32) (li k) 1 &&& (y.1 ^^^ (-1)) = 0
      · simp only [Bool.true_eq_false, if_false, h, if_true, ne_eq, not_true, and_false]
      · simp only [Bool.true_eq_false, if_false, h, ne_eq, not_false_eq_true, and_self, if_true]
  | _, _, _, _, 0, h => absurd h (Nat.not_lt_zero _)
theorem m_falls (g : ab_HP) (hp : mp g) {n : Nat} {li : Nat → Nat} (hl : ml g n li) : ∀ (f : Nat) (y : yS), y_cnt n y < f → f_X12_falls_l2 31 (f + 1) (bI true) (y_put g y) = some (y_put g (y_falls (ab_i g 32) li n f y))
  | 0, _, h => absurd h (Nat.not_lt_zero _)
  | f + 1, y, h => by
    have hn := hl.1
    rw [f_X12_falls_l2]
    simp only [bI_0, Bool.true_eq_false, if_false, y_24, hl.2.1]
    have e := m_fallp g hp hl (f_X12_falls_l2 31 (f + 1)) n false y (Nat.le_refl _) 1000 (by omega)
    rw [bI_f] at e
    rw [e]
    have h3 := y_fallp_cnt (ab_i g 32) li n n false y (Nat.le_refl _)
    rw [y_falls]
    cases hm : (y_fallp (ab_i g 32) li n false y).1
    · rw [f_X12_falls_l2]
      simp only [bI_0, if_true, Bool.false_eq_true, if_false]
    · rw [if_pos rfl]
      have h4 := h3.2 hm
      simp at h4
      exact m_falls g hp hl f _ (by omega)
theorem m_fallsA (g : ab_HP) (hp : mp g) {n : Nat} {li : Nat → Nat} (hl : ml g n li) (y : yS) : f_X12_falls 31 (y_put g y) = some (y_put g (y_falls (ab_i g 32) li n (n + 1) y)) := by
  have hn := hl.1
  have hc := y_cnt_le n y
  unfold f_X12_falls
  rw [show (1 : Int32) = bI true from rfl, m_falls g hp hl 999 y (by omega), y_falls_stab (ab_i g 32) li n 999 (n + 1) y (by omega) (by omega)]
end MODPP
