section JDP
theorem p_judge (i j k : Int32) : callp (f_X11_judge 0 i j k) (f_X12_judge 31 i j k) := by
  intro h g H
  unfold f_X11_judge f_X12_judge
  simp only [c_nails, m_nails, Option.bind_some, ab_let, Option.elim_some, Option.elim_none, bI_0]
  rcases i_split 8 (by decide) k with ⟨e, he, rfl⟩ | hn3
  rotate_left
  · have e3 : f_X12_isShelf k g = some 0 := by rw [m_isShelf, decide_eq_false (by omega), bI_f]
    simp only [c_shelff H.1 hn3, e3, Option.bind_some, Option.elim_none, if_true, ite_self]
    rcases lst3 H i with ⟨e1, _⟩ | ⟨e1, _⟩ | ⟨e1, _⟩ <;> simp only [e1, Option.bind_some, one0, if_true, if_false, ite_self] <;> exact ⟨_, _, _, rfl, rfl, meq_refl h, ceq_refl g, H⟩
  · have e3 : f_X12_isShelf (nI e) g = some 1 := by rw [m_isShelf, decide_eq_true (by rw [nI_toInt (by omega)]; omega), bI_t]
    simp only [c_shelf H.1 he, e3, Option.bind_some, Option.elim_some, one0, if_false]
    rcases Bool.eq_false_or_eq_true (decide (0 ≤ j ∧ j ≤ 255)) with hb | hb
    rotate_left
    · simp only [hb, if_true]
      rcases lst3 H i with ⟨e1, _⟩ | ⟨e1, _⟩ | ⟨e1, _⟩ <;> simp only [e1, Option.bind_some, one0, if_true, if_false] <;> exact ⟨_, _, _, rfl, rfl, meq_refl h, ceq_refl g, H⟩
    · simp only [hb, Bool.true_eq_false, if_false]
      rcases lst3 H i with ⟨e1, e2, e5, e4⟩ | ⟨e1, a, ha, e2, e5, e4⟩ | ⟨e1, e2, e4, d, n, hd, rfl, hn, es, eg, hel0, hl⟩
      · simp only [e1, e5, Option.bind_some, if_true, k_m10, if_false, f_X11_judge_b40]
        exact ⟨_, _, _, rfl, rfl, meq_refl h, ceq_refl g, H⟩
      · simp only [e1, e5, e4, Option.bind_some, one0, ha, if_false, f_X11_judge_b40, f_X12_judge_b43]
        exact ⟨_, _, _, rfl, rfl, meq_refl h, ceq_refl g, H⟩
      · obtain ⟨w, li, w0, w1, hc, wl, wt, w4, hel, wi, wr, wll⟩ := c_take H hd hn es hel0 e2 hl
        have A := hm_take w1 wi wr wll
        have G1 := gr_mind H A (gm_refl g)
        have F := G1.2.2.2.2.2 e he
        have H0 := H
        obtain ⟨hc0, hp0, h50, ⟨N, ht, hd1⟩, hi, hs⟩ := H
        simp only [e1, e4, w0, Option.bind_some, one0, if_true, if_false, c_row F, m_rowA g hp0 he, f_X11_judge_b40, f_X12_judge_b43]
        by_cases wz : w_row g e = 0
        rotate_left
        · rw [if_neg wz, if_neg wz]
          exact ⟨_, _, _, rfl, rfl, A.meq, ceq_refl g, G1⟩
        · rw [if_pos wz, if_pos wz]
          have k2 : ab_i g 35 e = 2 := by
            unfold w_row at wz
            by_cases a : ab_i g 35 e = 0
            · rw [if_pos a] at wz; exact absurd wz (by decide)
            · rw [if_neg a] at wz
              by_cases b : ab_i g 35 e = 2
              · exact b
              · rw [if_neg b] at wz; exact absurd wz (by decide)
          rcases F with ⟨F1, _⟩ | ⟨F1, _⟩ | ⟨F1, F2, F3, ⟨o, ho, F4⟩, F5, m, F6, F7, F8⟩
          · rw [F1] at k2; exact absurd k2 (by decide)
          · rw [F1] at k2; exact absurd k2 (by decide)
          obtain ⟨v, v0, B, hp, vl, v25, vy⟩ := m_tk hp0 hd hn eg hel j
          have k2' : ab_i w 1 2 = ab_i g 32 0 := by rw [A.2.1 1 2 (by omega)]; exact hd1.1.2.1
          have k3' : ab_i w 1 3 = ab_i g 32 1 := by rw [A.2.1 1 3 (by omega)]; exact hd1.1.2.2.1
          have vp := m_pl hp B vl v25 vy
          obtain ⟨z0, hz0⟩ : ∃ z0 : zS, z0 = (ab_i g 32 0, ab_i g 32 1, 0, 0, 0, 0, 0, 0, ab_i w 9, ab_i w 10) := ⟨_, rfl⟩
          obtain ⟨y0, hy0⟩ : ∃ y0 : yS, y0 = (ab_i g 32 0, ab_i g 32 1, 0, 0, ab_i v 45, ab_i v 43, ab_i v 44, ab_i v 46) := ⟨_, rfl⟩
          rw [← hy0] at vp
          have Zn : zr 0 n 0 z0 y0 := by rw [hz0, hy0]; exact zr_0 _ _ 0 _ _ _ _ _ _ n
          have Ze := zr_evens (ab_i g 32) li j (show n ≤ 16 by omega) Zn
          have Zf := zr_pair (show n ≤ 16 by omega) (ab_i g 32) li j 0 Zn
          obtain ⟨z', cj⟩ := c_jd hc wl wt w4 he F6 (F5.trans F7) j z0 m 0 z0 (by omega) (fun _ => rfl) 1000 (by omega)
          have mj := m_jd (y_put v (y_pair (ab_i g 32) li n j y0)) hp (show n ≤ 16 by omega) ((y_24 _ _).trans vl.2.1) he F6 ((y_oth _ _ e (by decide) (by decide) (by decide) (by decide) (by decide)).trans ((B.2.1 37 e (by omega)).trans F7)) m 0 (by omega) 1000 (by omega)
          rw [show nI 0 = 0 from rfl] at cj mj
          have ee : ∀ k, k < m → ab_i w (16 + 2 * e) k = g_el (y_put v (y_pair (ab_i g 32) li n j y0)) e k := fun k hk => by
            rw [F8 k hk]
            unfold g_el
            rw [y_el, B.2.1 38 _ (by omega)]
          have ls : lsn (ab_i w (15 + 2 * e) 2) = lsn (ab_i (y_put v (y_pair (ab_i g 32) li n j y0)) 36 e) := by
            rw [F3, y_oth _ _ e (by decide) (by decide) (by decide) (by decide) (by decide), B.2.1 36 e (by omega)]
          have jc : jd (ab_i w (16 + 2 * e)) (lsn (ab_i w (15 + 2 * e) 2)) n (fun q => if q < n then (z_evens (ab_i g 32) li j (q + 1) z0).1 else (z_odds (ab_i g 32) li (ab_i g 32 3) n n (z_evens (ab_i g 32) li j n z0)).1) m 0 = jd (g_el (y_put v (y_pair (ab_i g 32) li n j y0)) e) (lsn (ab_i (y_put v (y_pair (ab_i g 32) li n j y0)) 36 e)) n (fun q => if q < n then ab_i (y_put v (y_pair (ab_i g 32) li n j y0)) 46 q else ab_i (y_put v (y_pair (ab_i g 32) li n j y0)) 31 26) m 0 := by
            rw [ls]
            apply jd_cong
            · intro q hq
              by_cases q2 : q < n
              · simp only [q2, if_true, y_46]
                rw [y_pair_B _ _ _ _ _ q2, (Ze (q + 1) (by omega)).1.1]
              · simp only [q2, if_false, y_26]
                exact Zf.1.1
            · intro q _ hq
              exact ee q (by omega)
          have cb := c_begin0 w (ab_i g 32 0) (ab_i g 32 1)
          rw [← hz0] at cb
          unfold f_X11_firstWrong
          simp only [hc 0 0 1 rfl, hc 0 1 3 rfl, hc 0 2 5 rfl, hc 0 3 7 rfl, hc 0 4 11 rfl, hc 0 5 12 rfl, hc 0 6 13 rfl, hc 0 7 14 rfl, hc 1 0 2 rfl, hc 3 0 4 rfl, hc 5 0 6 rfl, hc 7 0 8 rfl, hc 7 1 9 rfl, hc 7 2 10 rfl, Option.bind_some, k2', k3', cb, cj, v0, vp, mj]
          have A2 := A.trans (hm_z w z')
          have B2 := B.trans (gm_y v (y_pair (ab_i g 32) li n j y0))
          exact ⟨_, _, _, rfl, by rw [jc], A2.meq, B2.ceq, gr_mind H0 A2 B2⟩
end JDP
