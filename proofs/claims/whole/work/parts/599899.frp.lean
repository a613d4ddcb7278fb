section FRP
theorem fw_ge0 {st : fST} (H : stb st) : (0 ≤ fw st) = (¬ st = none) := by
  rcases st with _ | x
  · exact propext ⟨fun q => absurd q (by decide), fun q => absurd rfl q⟩
  · have := H x rfl
    exact propext ⟨fun _ q => (by cases q), fun _ => nI_pos' (by omega)⟩
theorem p_free (i j k : Int32) : callp (f_X11_free 0 i j k) (f_X12_free 31 i j k) := by
  intro h g H
  unfold f_X11_free f_X12_free
  simp only [c_marks10, is_0_1023, is_0_1, bI_if, Option.bind_some, ab_let, Option.elim_some, Option.elim_none, bI_0]
  rcases Bool.eq_false_or_eq_true (decide (0 ≤ j ∧ j ≤ 1023)) with hb | hb
  rotate_left
  · simp only [hb, if_true]
    rcases lst3 H i with ⟨e1, _⟩ | ⟨e1, _⟩ | ⟨e1, _⟩ <;> simp only [e1, Option.bind_some, one0, if_true, if_false] <;> exact ⟨_, _, _, rfl, rfl, meq_refl h, ceq_refl g, H⟩
  simp only [hb, Bool.true_eq_false, if_false]
  by_cases b : 0 ≤ k ∧ k ≤ 1
  rotate_left
  · simp only [decide_eq_false b, if_true]
    have e0 : ∀ X : Option (Int32 × ab_HP), (if k < 0 then (some ((-1), h)) else (if k ≤ 1 then X else some ((-1), h))) = some (-1, h) := by
      intro X
      by_cases q : k < 0
      · rw [if_pos q]
      · rw [if_neg q, if_neg (fun q2 => b ⟨by rw [n_lt] at q; rw [n_le]; omega, q2⟩)]
    rw [e0]
    rcases lst3 H i with ⟨e1, _⟩ | ⟨e1, _⟩ | ⟨e1, _⟩ <;> simp only [e1, Option.bind_some, one0, if_true, if_false] <;> exact ⟨_, _, _, rfl, rfl, meq_refl h, ceq_refl g, H⟩
  have b1 : ¬ k < 0 := by rw [n_lt]; have := b.1; rw [n_le] at this; omega
  simp only [decide_eq_true b, Bool.true_eq_false, if_false]
  simp only [b1, b.2, if_false, if_true]
  rcases lst3 H i with ⟨e1, e2, e3, e4⟩ | ⟨e1, a, ha, e2, e3, e4⟩ | ⟨e1, e2, e4, d, n, hd, rfl, hn, es, eg, he, hl⟩
  · rcases i_split 8 (by decide) i with ⟨d, hd, rfl⟩ | hn
    · simp only [e1, e2, c_shelf H.1 hd, Option.bind_some, if_true, k_m10, if_false]
      exact ⟨_, _, _, rfl, rfl, meq_refl h, ceq_refl g, H⟩
    · simp only [e1, e2, c_shelff H.1 hn, Option.bind_some, if_true, k_m10, if_false]
      exact ⟨_, _, _, rfl, rfl, meq_refl h, ceq_refl g, H⟩
  · rcases i_split 8 (by decide) i with ⟨d, hd, rfl⟩ | hn
    · simp only [e1, e2, e4, c_shelf H.1 hd, Option.bind_some, one0, ha, if_false, f_X12_free_b57]
      exact ⟨_, _, _, rfl, rfl, meq_refl h, ceq_refl g, H⟩
    · simp only [e1, e2, e4, c_shelff H.1 hn, Option.bind_some, one0, ha, if_false, f_X12_free_b57]
      exact ⟨_, _, _, rfl, rfl, meq_refl h, ceq_refl g, H⟩
  have H0 := H
  obtain ⟨hc, hp, h50, ⟨N, ht, hdt⟩, hi, hs⟩ := H
  have q8 : ab_in (nI d) 8 = true := in_nI hd (by decide)
  have qc : (nI d).toNatClampNeg = d := nI_clamp (by omega)
  simp only [e1, e2, e4, c_shelf hc hd, Option.bind_some, one0, if_true, if_false, Option.elim_some, es, hp 5, mp_0, mp_1, mp_2, mp_3, mp_4, mp_5, mp_6, mp_7, mp_8, mp_16, mp_19, mp_20, mp_21, mp_22, mp_23, mp_32, mp_39, shp_2, shp_4, shp_6, shp_8, shp_9, shp_10, shp_11, shp_12, shp_13, shp_14, shp_32, shp_33, shp_34, shp_35, shp_36, shp_37, shp_38, shp_39, shp_40, shp_41, shp_42, shp_43, shp_44, shp_45, shp_46, shp_47, shp_48, shp_49, q8, qc, eg]
  by_cases n5 : n ≤ 5
  rotate_left
  · have q : ¬ nI n ≤ 5 := nI_ge (a := 5) (by omega) (by omega)
    simp only [q, if_false, f_X12_free_b57, k_m130]
    exact ⟨_, _, _, rfl, rfl, meq_refl h, ceq_refl g, H0⟩
  have q : nI n ≤ 5 := nI_le (b := 5) n5 (by decide)
  simp only [q, if_true, f_X12_free_b57]
  obtain ⟨_, _, _, _, el⟩ := tls_of ht hd hn es eg he hl
  obtain ⟨U, u1, u2, u3⟩ := c_ol11 (d := d) j k 5 0 h (by omega) (hc 0 5 12 rfl) (fun x hx => absurd hx (Nat.not_lt_zero _)) 1000 (by omega)
  have hcU := u2.hm.cp hc
  have vp := vis_pm n (by omega)
  obtain ⟨W, w1, w2⟩ := c_frl (h := h) ht hd n5 (l := fun x => (g_el g d x).toNatClampNeg) j k hdt.1.2.1 hdt.1.2.2.1 es (fun x hx => ⟨(el x hx).1, (el x hx).2.2⟩) 120 [0, 1, 2, 3, 4] 0 U none (by omega) vp.2 (fun x hx => by cases hx) hcU (td_hm u2.hm ht.1 hdt) ⟨hcU 0 5 12 rfl, rfl, by decide, fun x hx => by
    rw [u3 x hx]
    have : ∀ x, x < 5 → og [0, 1, 2, 3, 4] x = x := by decide
    rw [this x hx]⟩ u2.hm 1000 (by omega)
  rw [vp.1] at w1
  obtain ⟨v, v0, v1, v2, v3, v4, v5, v6, v7, v8, v9, v10⟩ := m_lays g hp hd hn eg 0
  have B : gm g v := ⟨v1, fun r x q => v10 r x (by omega) (by omega), v2⟩
  have hpv := B.mp hp
  obtain ⟨X, x1, x2⟩ := m_lines ht hd n5 (l := fun x => (g_el g d x).toNatClampNeg) j eg (fun x hx => ⟨(el x hx).2.1, (el x hx).2.2⟩) n [] (by show 0 + n = n; omega) (fun x hx => absurd hx (Nat.not_lt_zero _)) 0 (fun x _ => by rw [b_0]; simp) 7 (by omega) (ab_ip v 31 34 (-4)) none ⟨B.trans (gm_ip (by omega)), mp_ip hpv _ _ _, by rw [hi_ip, if_neg (by omega)]; exact v4, fun x hx => absurd hx (Nat.not_lt_zero _), by rw [hi_ip, if_pos ⟨rfl, rfl⟩]; rfl, fun x hx => by cases hx⟩ (fun x hx => by cases hx)
  have sb : stb ((pm n n []).foldl (fstp (ab_i g 32) (fun x => (g_el g d x).toNatClampNeg) n j) none) := foldl_b _ _ (fun x hx => by cases hx)
  generalize (pm n n []).foldl (fstp (ab_i g 32) (fun x => (g_el g d x).toNatClampNeg) n j) none = st at w1 x2 sb
  rw [show nI ([] : List Nat).length = (0 : Int32) from rfl] at x1
  have w1' : f_X11_freest 0 (some (15 + 2 * d)) j k h = some (if k = 0 then fd st else fw st, W) := by
    unfold f_X11_freest
    rw [show nI 0 = (0 : Int32) from rfl] at u1 w1
    rw [show fw none = (-4 : Int32) from rfl, show fd none = (-4 : Int32) from rfl] at w1
    rw [u1]
    exact w1
  obtain ⟨B2, hpX, h24, h47, h34, h33⟩ := x2
  simp only [w1', v0, Option.bind_some, ab_let, x1, h34, fw_ge0 sb]
  rcases hs0 : st with _ | x
  · refine ⟨-4, W, X, ?_, ?_, w2.meq, B2.ceq, gr_mind H0 w2 B2⟩
    · show some ((if k = 0 then (-4 : Int32) else -4), W) = _
      rw [ite_self]
    · simp only [not_true, if_false]
  · have e33 := h33 x hs0
    simp only [reduceCtorEq, not_false_eq_true, if_true, e33]
    by_cases k0 : k = 0
    · simp only [k0, if_true]
      exact ⟨_, _, _, rfl, rfl, w2.meq, B2.ceq, gr_mind H0 w2 B2⟩
    · simp only [k0, if_false]
      exact ⟨_, _, _, rfl, rfl, w2.meq, B2.ceq, gr_mind H0 w2 B2⟩
end FRP
