section MODL
theorem y_sf (g : ab_HP) (y : yS) : ab_i (y_put g y) 32 = ab_i g 32 := rfl
theorem y_ff (g : ab_HP) (y : yS) : ab_i (y_put g y) 45 = y.2.2.2.2.1 := rfl
theorem fa_not_lt {a b : Int32} (h : a ≤ b) : (b < a) = False := eq_false (by rw [n_lt]; rw [n_le] at h; omega)
theorem fa_lt_of {a b : Int32} (h : ¬ a ≤ b) : (b < a) = True := eq_true (by rw [n_lt]; rw [n_le] at h; omega)
theorem m_even1 (g : ab_HP) (hp : mp g) {n : Nat} {li : Nat → Nat} (hn : n ≤ 16) (hl : ab_i g 31 24 = nI n) (hli : ∀ i, i < n → ab_i g 42 i = nI (li i) ∧ li i < 8) {i : Nat} (hi : i < n) (y : yS) (f : Nat) : f_X12_evenYear_l2 31 (f + 1) (nI i) (y_put g y) = f_X12_evenYear_l2 31 f (nI (i + 1)) (y_put g (y_even1 (ab_i g 32) li (ab_i g 31 25) i y)) := by
  obtain ⟨so, c, p, u, F, C, A, B⟩ := y
  have hd := (hli i hi).2
  have ei := (hli i hi).1
  have q16 : ab_in (nI i) 16 = true := in_nI (by omega) (by decide)
  have qc : (nI i).toNatClampNeg = i := nI_clamp (by omega)
  have hnl : ¬ nI n ≤ nI i := nI_ge hi (by omega)
  rw [f_X12_evenYear_l2]
  simp only [f_X12_evenYear_b183, hp 0, hp 16, hp 19, hp 20, hp 21, hp 22, hp 23, mp_0, mp_1, mp_2, mp_3, mp_4, mp_5, mp_6, mp_7, mp_8, mp_16, mp_19, mp_20, mp_21, mp_22, mp_23, mp_32, mp_39, shp_2, shp_4, shp_6, shp_8, shp_9, shp_10, shp_11, shp_12, shp_13, shp_14, shp_32, shp_33, shp_34, shp_35, shp_36, shp_37, shp_38, shp_39, shp_40, shp_41, shp_42, shp_43, shp_44, shp_45, shp_46, shp_47, shp_48, shp_49, Option.bind_some, ab_let, Option.elim_some, Option.elim_none, y_26, y_27, y_28, y_29, y_43, y_44, y_45, y_46, y_24, y_25, y_s, y_li, y_el, y_r, y_l, y_1, y_p26, y_p27, y_p28, y_p29, y_p43, y_p44, y_p45, y_p46, hl, hnl, if_false, q16, if_true, qc, ei, m_may _ (mp_y hp _) hd, m_marks _ (mp_y hp _) hd, m_cost _ (mp_y hp _) hd, m_kept _ (mp_y hp _) hd, m_price _ (mp_y hp _), y_sf, bI_0, upd_at, upd2, nI_1, y_nb_e]
  cases hm : t_mayb (ab_i g 32) (li i) so c
  · simp only [hm, y_even1, if_true, if_false, Bool.false_eq_true]
  · simp only [hm, if_false, y_even1, if_true, Bool.true_eq_false]
    by_cases hk : t_kept (ab_i g 32) (li i) = 0
    · simp only [hk, if_true]
      cases hb : y_nb (ab_i g 31 25) i
      · simp only [if_false, false_and, Bool.false_eq_true]
      · by_cases hc : t_price (ab_i g 32) i ≤ c - t_cost (ab_i g 32) (li i)
        · simp only [hc, if_true, true_and, fa_not_lt hc, if_false]
        · simp only [hc, if_true, if_false, and_false, fa_lt_of hc]
    · simp only [hk, if_false]
      cases hb : y_nb (ab_i g 31 25) i
      · simp only [if_false, false_and, Bool.false_eq_true]
      · by_cases hc : t_price (ab_i g 32) i ≤ c - t_cost (ab_i g 32) (li i)
        · simp only [hc, if_true, true_and, fa_not_lt hc, if_false]
        · simp only [hc, if_true, if_false, and_false, fa_lt_of hc]
end MODL
