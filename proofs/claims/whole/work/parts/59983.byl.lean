section BYL
theorem p_byLaw (i j k : Int32) : callp (f_X11_byLaw 0 i j k) (f_X12_byLaw 31 i j k) := by
  intro h g H
  unfold f_X11_byLaw f_X12_byLaw
  simp only [c_nails, m_nails, is_0_2, bI_if, Option.bind_some, ab_let, Option.elim_some, Option.elim_none, bI_0]
  rcases i_split 3 (by decide) i with ⟨l, hl3, rfl⟩ | hn3
  rotate_left
  · have e : ¬ (0 ≤ i ∧ i ≤ 2) := by rw [is_in, l_int0, show (2 : Int32).toInt = 2 from rfl]; omega
    simp only [decide_eq_false e, if_true]
    refine ⟨-1, h, g, ?_, rfl, meq_refl h, ceq_refl g, H⟩
    by_cases q : i < 0
    · rw [if_pos q]
    · rw [if_neg q, if_pos]
      rw [n_lt, l_int0] at q
      rw [n_le, show (3 : Int32).toInt = 3 from rfl]
      omega
  · have e : (0 : Int32) ≤ nI l ∧ nI l ≤ 2 := ⟨nI_pos' (by omega), nI_le (b := 2) (by omega) (by decide)⟩
    simp only [nI_lt0 (show l < 2 ^ 31 by omega), nI_ge (b := 3) hl3 (by decide), show ¬ (3 : Int32) ≤ nI l from nI_ge (b := 3) hl3 (by decide), if_false, decide_eq_true e, Bool.true_eq_false]
    rcases Bool.eq_false_or_eq_true (decide (0 ≤ k ∧ k ≤ 255)) with hb | hb
    rotate_left
    · simp only [hb, if_true]
      rcases lst3 H j with ⟨e1, _⟩ | ⟨e1, _⟩ | ⟨e1, _⟩ <;> simp only [e1, Option.bind_some, one0, if_true, if_false] <;> exact ⟨_, _, _, rfl, rfl, meq_refl h, ceq_refl g, H⟩
    · simp only [hb, Bool.true_eq_false, if_false]
      rcases lst3 H j with ⟨e1, e2, e3, e4⟩ | ⟨e1, a, ha, e2, e3, e4⟩ | ⟨e1, e2, e4, d, n, hd, rfl, hn, es, eg, he, hl⟩
      · simp only [e1, e3, Option.bind_some, if_true, k_m10, if_false]
        exact ⟨_, _, _, rfl, rfl, meq_refl h, ceq_refl g, H⟩
      · simp only [e1, e3, e4, Option.bind_some, one0, ha, if_false]
        exact ⟨_, _, _, rfl, rfl, meq_refl h, ceq_refl g, H⟩
      · obtain ⟨w, li, w0, w1, hc, wl, wt, w4, hel, wi, wr, wll⟩ := c_take H hd hn es he e2 hl
        have A := hm_take w1 wi wr wll
        have H0 := H
        obtain ⟨hc0, hp0, h50, ⟨N, ht, hd1⟩, hi, hs⟩ := H
        -- the town under that LAW
        have gl := gr_law H0 ⟨l, hl3, rfl⟩
        obtain ⟨N', ht', hd'⟩ := gl.2.2.2.1
        have s7 : ∀ q, 7 ≤ q → ab_i (ab_ip g 32 3 (nI l)) 32 q = ab_i g 32 q := fun q hq => by rw [hi_ip, if_neg (by omega)]
        have sN : ∀ q, q ≠ 3 → ab_i (ab_ip g 32 3 (nI l)) 32 q = ab_i g 32 q := fun q hq => by rw [hi_ip, if_neg (by omega)]
        have s3 : ab_i (ab_ip g 32 3 (nI l)) 32 3 = nI l := by rw [hi_ip, if_pos ⟨rfl, rfl⟩]
        have hel' : ∀ q, q < n → g_el (ab_ip g 32 3 (nI l)) d q = nI (li q) ∧ li q < 8 := fun q hq => by
          refine ⟨?_, (hel q hq).2⟩
          rw [← (hel q hq).1]
          unfold g_el
          rw [hi_ip, if_neg (by omega)]
        obtain ⟨v, v0, B, hp, vl, v25, vy⟩ := m_tk (mp_ip hp0 32 3 (nI l)) hd hn (by rw [hi_ip, if_neg (by omega)]; exact eg) hel' k
        have wl' : cl (ab_ip w 7 4 (nI l)) n li (ab_i (ab_ip g 32 3 (nI l)) 32) := by
          refine ⟨wl.1, by rw [hi_ip, if_neg (by omega)]; exact wl.2.1, fun q hq => ⟨(wl.2.2 q hq).1, ?_⟩⟩
          obtain ⟨r, r1, r2⟩ := (wl.2.2 q hq).2
          exact ⟨r, r1, dk_heap (fun b => by rw [hi_ip, if_neg (by have := r2.1; omega)]) (dk_town s7 r2)⟩
        have wt' : ct (ab_ip w 7 4 (nI l)) (ab_i (ab_ip g 32 3 (nI l)) 32) := by
          refine ⟨wt.1, ?_, ?_⟩
          · rw [hi_ip, if_neg (by omega), sN 4 (by decide)]; exact wt.2.1
          · rw [hi_ip, if_neg (by omega), sN 5 (by decide)]; exact wt.2.2
        have wc' : cp (ab_ip w 7 4 (nI l)) := fun r b x hx => hc r b x hx
        have k2 : ab_i (ab_ip w 7 4 (nI l)) 1 2 = ab_i (ab_ip g 32 3 (nI l)) 32 0 := by rw [hi_ip, if_neg (by omega), sN 0 (by decide), A.2.1 1 2 (by omega)]; exact hd1.1.2.1
        have k3 : ab_i (ab_ip w 7 4 (nI l)) 1 3 = ab_i (ab_ip g 32 3 (nI l)) 32 1 := by rw [hi_ip, if_neg (by omega), sN 1 (by decide), A.2.1 1 3 (by omega)]; exact hd1.1.2.2.1
        have wp := c_play wc' wl' wt' (by rw [s3, hi_ip, if_pos ⟨rfl, rfl⟩]) k2 k3 k
        have vp := m_pl hp B vl v25 vy
        have Z := pl_zr (show n ≤ 16 by omega) (ab_i (ab_ip g 32 3 (nI l)) 32) li k (ab_i v 45) (ab_i v 43) (ab_i v 44) (ab_i v 46) (ab_i (ab_ip w 7 4 (nI l)) 9) (ab_i (ab_ip w 7 4 (nI l)) 10)
        have Y := y_in_pair ht' (y := (ab_i (ab_ip g 32 3 (nI l)) 32 0, ab_i (ab_ip g 32 3 (nI l)) 32 1, 0, 0, ab_i v 45, ab_i v 43, ab_i v 44, ab_i v 46)) (n := n) (li := li) (fun q hq => by
          have e := (nI_eq (by have := ht'.1; omega) (by have := ht.1; omega)).mp (ht'.2.1.symm.trans ((sN 6 (by decide)).trans ht.2.1))
          rw [e]
          exact li_lt hel hl ht q hq) k (fun j h1 _ => tw_bits ht' j h1) ht'.2.2.2.1
        generalize z_odds (ab_i (ab_ip g 32 3 (nI l)) 32) li (ab_i (ab_ip g 32 3 (nI l)) 32 3) n n (z_evens (ab_i (ab_ip g 32 3 (nI l)) 32) li k n (ab_i (ab_ip g 32 3 (nI l)) 32 0, ab_i (ab_ip g 32 3 (nI l)) 32 1, 0, 0, 0, 0, 0, 0, ab_i (ab_ip w 7 4 (nI l)) 9, ab_i (ab_ip w 7 4 (nI l)) 10)) = z at wp Z
        generalize y_pair (ab_i (ab_ip g 32 3 (nI l)) 32) li n k (ab_i (ab_ip g 32 3 (nI l)) 32 0, ab_i (ab_ip g 32 3 (nI l)) 32 1, 0, 0, ab_i v 45, ab_i v 43, ab_i v 44, ab_i v 46) = y at vp Z Y
        have A2 : hm h (z_put (ab_ip w 7 4 (nI l)) z) := A.trans ((hm_ip (by omega)).trans (hm_z _ z))
        have B2 : gm g (ab_ip (y_put v y) 32 3 (ab_i g 32 3)) := by
          have b := B.trans (gm_y v y)
          refine ⟨b.1, fun r q hq => ?_, fun r q => b.2.2 r q⟩
          rw [hi_ip]
          by_cases e : r = 32 ∧ q = 3
          · rw [if_pos e, e.1, e.2]
          · rw [if_neg e, b.2.1 r q hq, hi_ip, if_neg e]
        have b16 : ∀ q, 16 ≤ q → q < 32 → bt y.1 q = false := fun q q1 q2 => Y.1 q (by omega) q2
        have q26 : ab_i (ab_ip (y_put v y) 32 3 (ab_i g 32 3)) 31 26 = y.1 := by rw [hi_ip, if_neg (by omega)]; rfl
        simp only [e1, e4, w0, Option.bind_some, one0, if_true, if_false, hc 0 0 1 rfl, hc 0 1 3 rfl, hc 0 2 5 rfl, hc 0 3 7 rfl, hc 0 4 11 rfl, hc 0 5 12 rfl, hc 0 6 13 rfl, hc 0 7 14 rfl, hc 1 0 2 rfl, hc 3 0 4 rfl, hc 5 0 6 rfl, hc 7 0 8 rfl, hc 7 1 9 rfl, hc 7 2 10 rfl, ab_let, hr_ip, wp, z_r, z_a6, Z.1.1, bc_bt b16, hp0 0, mp_0, mp_1, mp_2, mp_3, mp_4, mp_5, mp_6, mp_7, mp_8, mp_16, mp_19, mp_20, mp_21, mp_22, mp_23, mp_32, mp_39, shp_2, shp_4, shp_6, shp_8, shp_9, shp_10, shp_11, shp_12, shp_13, shp_14, shp_32, shp_33, shp_34, shp_35, shp_36, shp_37, shp_38, shp_39, shp_40, shp_41, shp_42, shp_43, shp_44, shp_45, shp_46, shp_47, shp_48, shp_49, in_l0, in_l1, in_l2, in_l3, in_l4, in_l5, in_l6, lit_c0, lit_c1, lit_c2, lit_c3, lit_c4, lit_c5, lit_c6, Nat.reduceLT, decide_true, v0, vp, y_r, hp 0, q26, bits_bt b16]
        exact ⟨_, _, _, rfl, rfl, A2.meq, B2.ceq, gr_mind H0 A2 B2⟩
end BYL
