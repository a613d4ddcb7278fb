section PLQ
theorem c_plan0 {h : ab_HP} {N : Nat} {s : Nat → Int32} (ht : tw N s) (h0 : b10 (s 0)) (hc : cp h) (hd1 : td h 1 N s) {d : Nat} (hd : d < 8) {el : Nat → Int32} (es : ab_i h (15 + 2 * d) 3 = nI 10) (he : ∀ k, k < 10 → ab_i h (16 + 2 * d) k = el k) (pn wh : Int32) : ∃ X, f_X11_plan_b58 0 pn wh (some (15 + 2 * d)) 0 h = some (if wh = 1 then nI (mco ((mvl N).foldl (bst s el N pn) ((0, 0, 0, 0), pv s el N pn (0, 0, 0, 0))).1) else ((mvl N).foldl (bst s el N pn) ((0, 0, 0, 0), pv s el N pn (0, 0, 0, 0))).2, X) ∧ hm h X := by
  have hN := ht.1
  have hL := mvl_len N (by omega)
  obtain ⟨W, w1, w2, w3⟩ := c_moves hN hc (hd1.1.1.trans ht.2.1)
  have AW := w3.hm
  have hcW := AW.cp hc
  have hdW := td_hm AW hN hd1
  have esW : ab_i W (15 + 2 * d) 3 = nI 10 := by rw [AW.2.1 _ _ (by omega)]; exact es
  have heW : ∀ k, k < 10 → ab_i W (16 + 2 * d) k = el k := fun k hk => by rw [AW.2.1 _ _ (by omega)]; exact he k hk
  have a0 := c_mat w2 hL (k := 0) (m := (0, 0, 0, 0)) rfl
  rw [show nI 0 = (0 : Int32) from rfl] at a0
  obtain ⟨Y, y1, y2⟩ := c_wom ht hd pn hcW hdW w2 esW heW (m := (0, 0, 0, 0)) rfl
  have hcY := y2.1.cp hcW
  have hdY := td_hm y2.1 hN hdW
  have esY : ab_i Y (15 + 2 * d) 3 = nI 10 := by rw [y2.1.2.1 _ _ (by omega)]; exact esW
  have heY : ∀ k, k < 10 → ab_i Y (16 + 2 * d) k = el k := fun k hk => by rw [y2.1.2.1 _ _ (by omega)]; exact heW k hk
  obtain ⟨Z, z1, z2, z3⟩ := c_best ht hd pn h0 (mvl N).length 0 Y ((0, 0, 0, 0), pv s el N pn (0, 0, 0, 0)) (by omega) hcY hdY (mvh_fr y2 w2) esY heY (fun j m hj => absurd hj (Nat.not_lt_zero _)) 1000 (by omega)
  rw [List.drop_zero, show nI 0 = (0 : Int32) from rfl] at z1
  have bm : f_X11_bestMove 0 pn (some (15 + 2 * d)) W = some (nI (mco ((mvl N).foldl (bst s el N pn) ((0, 0, 0, 0), pv s el N pn (0, 0, 0, 0))).1), Z) := by
    rw [f_X11_bestMove, hcW 0 6 13 rfl, a0, Option.bind_some, y1, Option.bind_some]
    exact z1
  have inv := bst_inv s el N pn (mvl N) ((0, 0, 0, 0), pv s el N pn (0, 0, 0, 0)) (mvl_ok N (by omega)) rfl rfl
  generalize (mvl N).foldl (bst s el N pn) ((0, 0, 0, 0), pv s el N pn (0, 0, 0, 0)) = r at bm inv ⊢
  have AZ := (AW.trans y2.1).trans z2
  unfold f_X11_plan_b58
  rw [if_pos rfl, w1, Option.bind_some, bm, Option.bind_some]
  by_cases k1 : wh = 1
  · rw [if_pos k1, if_pos k1]
    exact ⟨Z, rfl, AZ⟩
  · rw [if_neg k1, if_neg k1]
    obtain ⟨X, x1, x2⟩ := c_wom (el := el) ht hd pn (z2.cp hcY) (td_hm z2 hN hdY) z3 (by rw [z2.2.1 _ _ (by omega)]; exact esY) (fun k hk => by rw [z2.2.1 _ _ (by omega)]; exact heY k hk) inv.1
    have e : vlu s el N pn (eff s r.1 (s 0, s 1)) = r.2 := inv.2.symm
    rw [e] at x1
    exact ⟨X, by rw [x1]; rfl, AZ.trans x2.1⟩
theorem k_far1 : (-1000000000 : Int32) + (-13) = -1000000013 := by decide
theorem p_plan (i j k : Int32) : callp (f_X11_plan 0 i j k) (f_X12_plan 31 i j k) := by
  intro h g H
  unfold f_X11_plan f_X12_plan
  simp only [is_1_2, is_0_1, bI_if, Option.bind_some, ab_let, Option.elim_some, Option.elim_none, bI_0]
  rcases i_split 8 (by decide) j with ⟨d, hd, rfl⟩ | hn
  rotate_left
  · have e3 : f_X12_isShelf j g = some 0 := by rw [m_isShelf, decide_eq_false (by omega), bI_f]
    simp only [c_shelff H.1 hn, e3, Option.bind_some, Option.elim_none, if_true, ite_self]
    exact ⟨_, _, _, rfl, rfl, meq_refl h, ceq_refl g, H⟩
  have e3 : f_X12_isShelf (nI d) g = some 1 := by rw [m_isShelf, decide_eq_true (by rw [nI_toInt (by omega)]; omega), bI_t]
  simp only [c_shelf H.1 hd, e3, Option.bind_some, Option.elim_some, one0, if_false]
  by_cases a : 1 ≤ i ∧ i ≤ 2
  rotate_left
  · simp only [decide_eq_false a, if_true]
    refine ⟨-1000000001, h, g, ?_, rfl, meq_refl h, ceq_refl g, H⟩
    by_cases q : i < 1
    · rw [if_pos q]
    · rw [if_neg q, if_pos]
      rw [n_lt] at q
      rw [n_lt]
      rw [n_le, n_le] at a
      omega
  have a1 : ¬ i < 1 := by rw [n_lt]; have := a.1; rw [n_le] at this; omega
  have a2 : ¬ 2 < i := by rw [n_lt]; have := a.2; rw [n_le] at this; omega
  simp only [decide_eq_true a, a1, a2, if_false, Bool.true_eq_false]
  by_cases b : 0 ≤ k ∧ k ≤ 1
  rotate_left
  · simp only [decide_eq_false b, if_true]
    refine ⟨-1000000001, h, g, ?_, rfl, meq_refl h, ceq_refl g, H⟩
    by_cases q : k < 0
    · rw [if_pos q]
    · rw [if_neg q, if_neg]
      rw [n_lt] at q
      rw [n_le]
      rw [n_le, n_le] at b
      omega
  have b1 : ¬ k < 0 := by rw [n_lt]; have := b.1; rw [n_le] at this; omega
  simp only [decide_eq_true b, Bool.true_eq_false, if_false]
  simp only [b1, b.2, if_false, if_true]
  have H0 := H
  obtain ⟨hc, hp, h50, ⟨N, ht, hdt⟩, hi, hs⟩ := H
  have F := hs d hd
  have q8 : ab_in (nI d) 8 = true := in_nI hd (by decide)
  have qc : (nI d).toNatClampNeg = d := nI_clamp (by omega)
  simp only [c_row F, m_rowA g hp hd, Option.bind_some, hp 5, mp_0, mp_1, mp_2, mp_3, mp_4, mp_5, mp_6, mp_7, mp_8, mp_16, mp_19, mp_20, mp_21, mp_22, mp_23, mp_32, mp_39, shp_2, shp_4, shp_6, shp_8, shp_9, shp_10, shp_11, shp_12, shp_13, shp_14, shp_32, shp_33, shp_34, shp_35, shp_36, shp_37, shp_38, shp_39, shp_40, shp_41, shp_42, shp_43, shp_44, shp_45, shp_46, shp_47, shp_48, shp_49, q8, qc, if_true]
  by_cases wz : w_row g d = 0
  rotate_left
  · simp only [wz, if_false, f_X11_plan_b58]
    exact ⟨_, _, _, rfl, rfl, meq_refl h, ceq_refl g, H0⟩
  have k2 : ab_i g 35 d = 2 := by
    unfold w_row at wz
    by_cases a : ab_i g 35 d = 0
    · rw [if_pos a] at wz; exact absurd wz (by decide)
    · rw [if_neg a] at wz
      by_cases b : ab_i g 35 d = 2
      · exact b
      · rw [if_neg b] at wz; exact absurd wz (by decide)
  rcases F with ⟨F1, _⟩ | ⟨F1, _⟩ | ⟨F1, F2, F3, ⟨o, ho, F4⟩, F5, m, F6, F7, F8⟩
  · rw [F1] at k2; exact absurd k2 (by decide)
  · rw [F1] at k2; exact absurd k2 (by decide)
  simp only [wz, if_true, f_X11_areWorths, Option.bind_some, F5, F7]
  by_cases m10 : m = 10
  rotate_left
  · have q : ¬ nI m = 10 := fun x => m10 ((nI_eq (b := 10) (by omega) (by decide)).mp x)
    simp only [q, if_false, Option.bind_some, if_true, f_X11_plan_b58, k_m130, k_far1]
    exact ⟨_, _, _, rfl, rfl, meq_refl h, ceq_refl g, H0⟩
  subst m10
  have es : ab_i h (15 + 2 * d) 3 = nI 10 := F5.trans F7
  have he : ∀ x, x < 10 → ab_i h (16 + 2 * d) x = g_el g d x := fun x hx => F8 x hx
  have cw := c_wck hc hd es he 10 0 (by omega) 1000 (by omega)
  have mw := m_wck g hp hd i k 10 0 (by omega) 1000 (by omega)
  rw [show nI 0 = (0 : Int32) from rfl] at cw mw
  rw [if_pos (show nI 10 = (10 : Int32) from rfl), if_pos (show nI 10 = (10 : Int32) from rfl), cw, mw]
  rcases Bool.eq_false_or_eq_true (wck (g_el g d) 10 0) with hb | hb
  rotate_left
  · simp only [hb, bI_f, Option.bind_some, if_true, Bool.false_eq_true, if_false, f_X11_plan_b58, k_m130, k_far1]
    exact ⟨_, _, _, rfl, rfl, meq_refl h, ceq_refl g, H0⟩
  have h12 : i = 1 ∨ i = 2 := by
    obtain ⟨x1, x2⟩ := a
    rw [n_le, show (1 : Int32).toInt = 1 from rfl] at x1
    rw [n_le, show (2 : Int32).toInt = 2 from rfl] at x2
    rw [n_eq, n_eq, show (1 : Int32).toInt = 1 from rfl, show (2 : Int32).toInt = 2 from rfl]
    omega
  have hw := wck_t 10 0 hb
  obtain ⟨X, x1, x2⟩ := m_plan0 ht hp hd (fun x hx => hw x (by omega) (by omega)) h12 k 989
  obtain ⟨Y, y1, y2⟩ := c_plan0 ht (fun j h1 _ => tw_bits ht j h1) hc hdt hd es he i k
  rw [hb, bI_t, Option.bind_some, if_neg (by decide), y1, if_pos rfl, show 1000 - 10 = 989 + 1 from rfl, x1]
  refine ⟨_, Y, X, rfl, ?_, y2.meq, x2.ceq, gr_mind H0 y2 x2⟩
  by_cases k0 : k = 0
  · rw [if_pos k0, if_neg (by rw [k0]; decide)]
  · have k1 : k = 1 := by
      rw [n_eq, show (0 : Int32).toInt = 0 from rfl] at k0
      obtain ⟨b1, b2⟩ := b
      rw [n_le, show (0 : Int32).toInt = 0 from rfl] at b1
      rw [n_le, show (1 : Int32).toInt = 1 from rfl] at b2
      rw [n_eq, show (1 : Int32).toInt = 1 from rfl]
      omega
    rw [if_neg k0, if_pos k1]
end PLQ
