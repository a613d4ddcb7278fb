section LAS
theorem c_mark (i : Int32) : (¬ i < 0 ∧ i < 10) ↔ (0 ≤ i ∧ i ≤ 9) := by
  rw [n_lt, n_lt, n_le, n_le, show (0 : Int32).toInt = 0 from rfl, show (10 : Int32).toInt = 10 from rfl, show (9 : Int32).toInt = 9 from rfl]
  omega
theorem p_lasts (i j k : Int32) : callp (f_X11_lasts 0 i j k) (f_X12_lasts 31 i j k) := by
  intro h g H
  unfold f_X11_lasts f_X12_lasts f_X11_playList f_X12_isMark
  simp only [c_nails, m_nails, Option.bind_some, ab_let, Option.elim_some, Option.elim_none, bI_0, is_0_9, bI_if]
  by_cases hk : 0 ≤ k ∧ k ≤ 9
  rotate_left
  · have : ∀ X : Option (Int32 × ab_HP), (if k < 0 then (some ((-1), h)) else (if k < 10 then X else some ((-1), h))) = some (-1, h) := by
      intro X
      by_cases q : k < 0
      · rw [if_pos q]
      · rw [if_neg q, if_neg (fun q2 => hk ((c_mark k).mp ⟨q, q2⟩))]
    rw [this]
    simp only [decide_eq_false hk, if_true]
    rcases lst3 H i with ⟨e1, _⟩ | ⟨e1, _⟩ | ⟨e1, _⟩ <;> simp only [e1, Option.bind_some, one0, if_true, if_false, ite_self] <;> exact ⟨_, _, _, rfl, rfl, meq_refl h, ceq_refl g, H⟩
  · have hk2 := (c_mark k).mpr hk
    simp only [hk2.1, hk2.2, if_false, if_true, decide_eq_true hk, Bool.true_eq_false]
    rcases Bool.eq_false_or_eq_true (decide (0 ≤ j ∧ j ≤ 255)) with hb | hb
    rotate_left
    · simp only [hb, if_true, Option.bind_some, k_m10, if_false]
      rcases lst3 H i with ⟨e1, _⟩ | ⟨e1, _⟩ | ⟨e1, _⟩ <;> simp only [e1, Option.bind_some, one0, if_true, if_false] <;> exact ⟨_, _, _, rfl, rfl, meq_refl h, ceq_refl g, H⟩
    · simp only [hb, Bool.true_eq_false, if_false]
      rcases lst3 H i with ⟨e1, e2, e3, e4⟩ | ⟨e1, a, ha, e2, e3, e4⟩ | ⟨e1, e2, e4, d, n, hd, rfl, hn, es, eg, he, hl⟩
      · simp only [e1, e3, Option.bind_some, if_true, k_m10, if_false]
        exact ⟨_, _, _, rfl, rfl, meq_refl h, ceq_refl g, H⟩
      · simp only [e1, e3, e4, Option.bind_some, one0, ha, if_false]
        exact ⟨_, _, _, rfl, rfl, meq_refl h, ceq_refl g, H⟩
      · obtain ⟨w, z, v, y, w0, wp, v0, vp, Z, Y, A, B, hc, hp, w5, v24⟩ := duo H hd hn es eg he e2 hl j
        have A2 := A.trans (hm_z w z)
        have B2 := B.trans (gm_y v y)
        simp only [e1, e4, w0, Option.bind_some, one0, if_true, if_false, hc 0 0 1 rfl, hc 0 1 3 rfl, hc 0 2 5 rfl, hc 0 3 7 rfl, hc 0 4 11 rfl, hc 0 5 12 rfl, hc 0 6 13 rfl, hc 0 7 14 rfl, hc 1 0 2 rfl, hc 3 0 4 rfl, hc 5 0 6 rfl, hc 7 0 8 rfl, hc 7 1 9 rfl, hc 7 2 10 rfl, wp, v0, vp, z_r, z_a6, y_26, Z.1.1]
        exact ⟨_, _, _, rfl, rfl, A2.meq, B2.ceq, gr_mind H A2 B2⟩
theorem z_fate {n : Nat} (hn : n ≤ 16) {z : zS} {y : yS} (Z : zr n 0 0 z y) {p : Nat} (hp : p < n) (w : ab_HP) : f_X10_fate 7 (nI p) (z_put w z) = some (y.2.2.2.2.1 p) := by
  have hb := Z.2.1 p (by omega)
  have hf := Z.2.2 p hp
  unfold f_X10_fate
  simp only [z_a4, z_a5, z_a6, z_a7, z_a8, z_a9, z_a10, z_a11, z_a12, z_a13, z_b9, z_b10, z_t, z_r, z_l, z_1, c_has _ (show p < 32 by omega), Option.bind_some, bI_0]
  rcases hf.1 with e | e | e | e | e | e
  · have b1 : bt z.2.2.2.1 p = false := by rw [hb.1]; simp [zf, e]
    simp only [b1, if_true, e]
  · have b1 : bt z.2.2.2.1 p = true := by rw [hb.1]; simp [zf, e, hp]
    have b2 : bt z.2.2.2.2.1 p = true := by rw [hb.2.2.1]; simp [zf, e, hp]
    have b3 : bt z.2.2.2.2.2.2.2.1 p = false := by rw [hb.2.2.2.1]; simp [zf, e]
    simp only [b1, b2, b3, if_true, e, Bool.true_eq_false, if_false]
  · have b1 : bt z.2.2.2.1 p = true := by rw [hb.1]; simp [zf, e, hp]
    have b2 : bt z.2.2.2.2.1 p = false := by rw [hb.2.2.1]; simp [zf, e]
    have b3 : bt z.2.2.2.2.2.1 p = true := hf.2.2.2.1 e
    simp only [b1, b2, b3, if_true, e, Bool.true_eq_false, if_false]
  · have b1 : bt z.2.2.2.1 p = true := by rw [hb.1]; simp [zf, e, hp]
    have b2 : bt z.2.2.2.2.1 p = false := by rw [hb.2.2.1]; simp [zf, e]
    have b3 : bt z.2.2.2.2.2.1 p = false := hf.2.2.2.2 (Or.inr (Or.inl e))
    have b4 : bt z.2.2.2.2.2.2.1 p = true := by rw [hb.2.1]; simp [zf, e, hp]
    simp only [b1, b2, b3, b4, if_true, e, Bool.true_eq_false, if_false]
  · have b1 : bt z.2.2.2.1 p = true := by rw [hb.1]; simp [zf, e, hp]
    have b2 : bt z.2.2.2.2.1 p = false := by rw [hb.2.2.1]; simp [zf, e]
    have b3 : bt z.2.2.2.2.2.1 p = false := hf.2.2.2.2 (Or.inr (Or.inr e))
    have b4 : bt z.2.2.2.2.2.2.1 p = false := by rw [hb.2.1]; simp [zf, e]
    simp only [b1, b2, b3, b4, if_true, e, Bool.true_eq_false, if_false]
  · have b1 : bt z.2.2.2.1 p = true := by rw [hb.1]; simp [zf, e, hp]
    have b2 : bt z.2.2.2.2.1 p = true := by rw [hb.2.2.1]; simp [zf, e, hp]
    have b3 : bt z.2.2.2.2.2.2.2.1 p = true := by rw [hb.2.2.2.1]; simp [zf, e, hp]
    simp only [b1, b2, b3, if_true, e, Bool.true_eq_false, if_false]
theorem p_why (i j k : Int32) : callp (f_X11_why 0 i j k) (f_X12_why 31 i j k) := by
  intro h g H
  unfold f_X11_why f_X12_why f_X11_playList
  simp only [c_nails, m_nails, Option.bind_some, ab_let, Option.elim_some, Option.elim_none, bI_0]
  rcases Bool.eq_false_or_eq_true (decide (0 ≤ j ∧ j ≤ 255)) with hb | hb
  rotate_left
  · simp only [hb, if_true, Option.bind_some, k_m10, if_false]
    rcases lst3 H i with ⟨e1, _⟩ | ⟨e1, _⟩ | ⟨e1, _⟩ <;> simp only [e1, Option.bind_some, one0, if_true, if_false] <;> exact ⟨_, _, _, rfl, rfl, meq_refl h, ceq_refl g, H⟩
  · simp only [hb, Bool.true_eq_false, if_false]
    rcases lst3 H i with ⟨e1, e2, e3, e4⟩ | ⟨e1, a, ha, e2, e3, e4⟩ | ⟨e1, e2, e4, d, n, hd, rfl, hn, es, eg, he, hl⟩
    · simp only [e1, e3, Option.bind_some, if_true, k_m10, if_false]
      exact ⟨_, _, _, rfl, rfl, meq_refl h, ceq_refl g, H⟩
    · simp only [e1, e3, e4, Option.bind_some, one0, ha, if_false]
      exact ⟨_, _, _, rfl, rfl, meq_refl h, ceq_refl g, H⟩
    · obtain ⟨w, z, v, y, w0, wp, v0, vp, Z, Y, A, B, hc, hpv, w5, v24⟩ := duo H hd hn es eg he e2 hl j
      have hp := H.2.1
      have A2 := A.trans (hm_z w z)
      have B2 := B.trans (gm_y v y)
      have q8 : ab_in (nI d) 8 = true := in_nI hd (by decide)
      have qc : (nI d).toNatClampNeg = d := nI_clamp (by omega)
      simp only [e1, e4, w0, Option.bind_some, one0, if_true, if_false, hc 0 0 1 rfl, hc 0 1 3 rfl, hc 0 2 5 rfl, hc 0 3 7 rfl, hc 0 4 11 rfl, hc 0 5 12 rfl, hc 0 6 13 rfl, hc 0 7 14 rfl, hc 1 0 2 rfl, hc 3 0 4 rfl, hc 5 0 6 rfl, hc 7 0 8 rfl, hc 7 1 9 rfl, hc 7 2 10 rfl, wp, v0, vp, z_r, z_a5, w5, hp 5, mp_0, mp_1, mp_2, mp_3, mp_4, mp_5, mp_6, mp_7, mp_8, mp_16, mp_19, mp_20, mp_21, mp_22, mp_23, mp_32, mp_39, shp_2, shp_4, shp_6, shp_8, shp_9, shp_10, shp_11, shp_12, shp_13, shp_14, shp_32, shp_33, shp_34, shp_35, shp_36, shp_37, shp_38, shp_39, shp_40, shp_41, shp_42, shp_43, shp_44, shp_45, shp_46, shp_47, shp_48, shp_49, q8, qc, eg]
      rw [is_in0 k 0 _ 0 (nI n - 1) g rfl rfl, bI_if, show decide (0 ≤ k ∧ k ≤ nI n - 1) = decide (0 ≤ k.toInt ∧ k.toInt < n) from by rw [decide_eq_decide]; exact i_place n (by omega) k]
      by_cases hk : 0 ≤ k.toInt ∧ k.toInt < n
      · obtain ⟨p, hp2, rfl⟩ := n_in hk.1 hk.2
        have q16 : ab_in (nI p) 16 = true := in_nI (by omega) (by decide)
        have qc2 : (nI p).toNatClampNeg = p := nI_clamp (by omega)
        have hp := hpv
        simp only [decide_eq_true hk, bI_t, Option.bind_some, one0, if_false, nI_lt0 (show p < 2 ^ 31 by omega), nI_lt (a := p) (b := n) hp2 (by omega), if_true, z_fate (show n ≤ 16 by omega) Z hp2, y_r, hp 22, mp_0, mp_1, mp_2, mp_3, mp_4, mp_5, mp_6, mp_7, mp_8, mp_16, mp_19, mp_20, mp_21, mp_22, mp_23, mp_32, mp_39, shp_2, shp_4, shp_6, shp_8, shp_9, shp_10, shp_11, shp_12, shp_13, shp_14, shp_32, shp_33, shp_34, shp_35, shp_36, shp_37, shp_38, shp_39, shp_40, shp_41, shp_42, shp_43, shp_44, shp_45, shp_46, shp_47, shp_48, shp_49, q16, qc2, y_45]
        exact ⟨_, _, _, rfl, rfl, A2.meq, B2.ceq, gr_mind H A2 B2⟩
      · simp only [decide_eq_false hk, bI_f, Option.bind_some, if_true]
        refine ⟨-13, z_put w z, g, ?_, rfl, A2.meq, ceq_refl g, gr_mind H A2 (gm_refl g)⟩
        by_cases q : k < 0
        · rw [if_pos q]
        · rw [if_neg q, if_neg]
          rw [n_lt, l_int0] at q
          rw [n_lt, nI_toInt (by omega)]
          omega
theorem p_behind (i j k : Int32) : callp (f_X11_behind 0 i j k) (f_X12_behind 31 i j k) := by
  intro h g H
  unfold f_X11_behind f_X12_behind f_X11_playList
  simp only [c_nails, m_nails, Option.bind_some, ab_let, Option.elim_some, Option.elim_none, bI_0, is_0_3, bI_if]
  by_cases hk : 0 ≤ k ∧ k ≤ 3
  rotate_left
  · have : ∀ X : Option (Int32 × ab_HP), (if k < 0 then (some ((-1), h)) else (if k ≤ 3 then X else some ((-1), h))) = some (-1, h) := by
      intro X
      by_cases q : k < 0
      · rw [if_pos q]
      · rw [if_neg q, if_neg (fun q2 => hk ⟨by rw [n_lt] at q; rw [n_le]; omega, q2⟩)]
    rw [this]
    simp only [decide_eq_false hk, if_true]
    rcases lst3 H i with ⟨e1, _⟩ | ⟨e1, _⟩ | ⟨e1, _⟩ <;> simp only [e1, Option.bind_some, one0, if_true, if_false, ite_self] <;> exact ⟨_, _, _, rfl, rfl, meq_refl h, ceq_refl g, H⟩
  · have hk1 : ¬ k < 0 := by rw [n_lt]; have := hk.1; rw [n_le] at this; omega
    simp only [decide_eq_true hk, Bool.true_eq_false, if_false]
    simp only [hk1, hk.2, if_false, if_true]
    rcases Bool.eq_false_or_eq_true (decide (0 ≤ j ∧ j ≤ 255)) with hb | hb
    rotate_left
    · simp only [hb, if_true, Option.bind_some, k_m10, if_false]
      rcases lst3 H i with ⟨e1, _⟩ | ⟨e1, _⟩ | ⟨e1, _⟩ <;> simp only [e1, Option.bind_some, one0, if_true, if_false] <;> exact ⟨_, _, _, rfl, rfl, meq_refl h, ceq_refl g, H⟩
    · simp only [hb, Bool.true_eq_false, if_false]
      rcases lst3 H i with ⟨e1, e2, e3, e4⟩ | ⟨e1, a, ha, e2, e3, e4⟩ | ⟨e1, e2, e4, d, n, hd, rfl, hn, es, eg, he, hl⟩
      · simp only [e1, e3, Option.bind_some, if_true, k_m10, if_false]
        exact ⟨_, _, _, rfl, rfl, meq_refl h, ceq_refl g, H⟩
      · simp only [e1, e3, e4, Option.bind_some, one0, ha, if_false]
        exact ⟨_, _, _, rfl, rfl, meq_refl h, ceq_refl g, H⟩
      · obtain ⟨w, z, v, y, w0, wp, v0, vp, Z, Y, A, B, hc, hp, w5, v24⟩ := duo H hd hn es eg he e2 hl j
        have A2 := A.trans (hm_z w z)
        have B2 := B.trans (gm_y v y)
        have un : ∀ q, 16 ≤ q → q < 32 → bt z.2.2.2.2.1 q = false := fun q q1 q2 => by rw [(Z.2.1 q q2).2.2.1, decide_eq_false (by omega), Bool.false_and]
        have uc : y.2.2.2.1 = nI (fb_ct (bt z.2.2.2.2.1) 16) := by
          have e : fb_ct (bt z.2.2.2.2.1) 32 = fb_ct (bt z.2.2.2.2.1) 16 := by
            apply ct_below (by decide)
            intro q hq
            by_cases q2 : q < 16
            · rw [decide_eq_true q2, Bool.true_and]
            · rw [decide_eq_false q2, Bool.false_and, un q (by omega) hq]
          rw [Z.1.2.2.2, e, Int32.zero_add]
        simp only [e1, e4, w0, Option.bind_some, one0, if_true, if_false, hc 0 0 1 rfl, hc 0 1 3 rfl, hc 0 2 5 rfl, hc 0 3 7 rfl, hc 0 4 11 rfl, hc 0 5 12 rfl, hc 0 6 13 rfl, hc 0 7 14 rfl, hc 1 0 2 rfl, hc 3 0 4 rfl, hc 5 0 6 rfl, hc 7 0 8 rfl, hc 7 1 9 rfl, hc 7 2 10 rfl, wp, v0, vp, z_r, z_a6, z_a7, z_a8, z_a10, y_26, y_27, y_28, y_29, Z.1.1, Z.1.2.1, Z.1.2.2.1, bc_bt un, uc]
        by_cases k0 : k = 0
        · simp only [k0, if_true]
          exact ⟨_, _, _, rfl, rfl, A2.meq, B2.ceq, gr_mind H A2 B2⟩
        by_cases k1 : k = 1
        · simp only [k1, one0, if_true, if_false]
          exact ⟨_, _, _, rfl, rfl, A2.meq, B2.ceq, gr_mind H A2 B2⟩
        by_cases k2 : k = 2
        · simp only [k0, k1, k2, if_true, if_false, show ((2 : Int32) = 0) = False from k_20, show ((2 : Int32) = 1) = False from k_21]
          exact ⟨_, _, _, rfl, rfl, A2.meq, B2.ceq, gr_mind H A2 B2⟩
        · simp only [k0, k1, k2, if_false]
          exact ⟨_, _, _, rfl, rfl, A2.meq, B2.ceq, gr_mind H A2 B2⟩
end LAS
