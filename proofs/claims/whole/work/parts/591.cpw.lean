section CPW
theorem c_places {h : ab_HP} {q m : Nat} (hm : m ≤ 100) (e : ab_i h q 3 = nI m) (i n : Int32) : f_X6_hasPlaces q i n h = some (bI (decide (0 ≤ i.toInt ∧ 0 ≤ n.toInt ∧ i.toInt + n.toInt ≤ m))) := by
  unfold f_X6_hasPlaces
  rw [e]
  have z : (0 : Int32).toInt = 0 := rfl
  by_cases h1 : i < 0
  · rw [if_pos h1, decide_eq_false (by rw [n_lt, z] at h1; omega), bI_f]
  · rw [if_neg h1]
    rw [n_lt, z] at h1
    by_cases h2 : n < 0
    · rw [if_pos h2, decide_eq_false (by rw [n_lt, z] at h2; omega), bI_f]
    · rw [if_neg h2]
      rw [n_lt, z] at h2
      by_cases h3 : nI m < i
      · rw [if_pos h3, decide_eq_false (by rw [n_lt, nI_toInt (by omega)] at h3; omega), bI_f]
      · rw [if_neg h3]
        rw [n_lt, nI_toInt (by omega)] at h3
        have e2 : (nI m - i).toInt = (m : Int) - i.toInt := by
          rw [n_sub (by rw [nI_toInt (by omega)]; omega) (by rw [nI_toInt (by omega)]; omega), nI_toInt (by omega)]
        by_cases h4 : nI m - i < n
        · rw [if_pos h4, decide_eq_false (by rw [n_lt, e2] at h4; omega), bI_f]
        · rw [if_neg h4, decide_eq_true (by rw [n_lt, e2] at h4; omega), bI_t]
theorem p_copy (i1 i2 i3 i4 i5 : Int32) : callp (f_X11_copy 0 i1 i2 i3 i4 i5) (f_X12_copy 31 i1 i2 i3 i4 i5) := by
  intro h g H
  have H0 := H
  obtain ⟨hc, hp, h50, ht, hi, hs⟩ := H
  unfold f_X11_copy f_X12_copy
  rw [m_isShelf, m_isShelf]
  simp only [Option.bind_some, ab_let, Option.elim_some, Option.elim_none, bI_0, decide_eq_false_iff_not]
  have no : ∀ (a : Int32), ∃ b h1 g1, (some (a, h) : Option (Int32 × ab_HP)) = some (b, h1) ∧ (some (a, g) : Option (Int32 × ab_HP)) = some (b, g1) ∧ meq h h1 ∧ ceq g g1 ∧ gr h1 g1 := fun a => ⟨a, h, g, rfl, rfl, meq_refl h, ceq_refl g, H0⟩
  rcases i_split 8 (by decide) i1 with ⟨d, hd, rfl⟩ | hn
  · have bd : (0 ≤ (nI d).toInt ∧ (nI d).toInt < 8) := by rw [nI_toInt (by omega)]; omega
    rcases i_split 8 (by decide) i3 with ⟨e, he, rfl⟩ | hn3
    · have be : (0 ≤ (nI e).toInt ∧ (nI e).toInt < 8) := by rw [nI_toInt (by omega)]; omega
      have Fd := hs d hd
      have Fe := hs e he
      have qd : ab_in (nI d) 8 = true := in_nI hd (by decide)
      have qcd : (nI d).toNatClampNeg = d := nI_clamp (by omega)
      have qe : ab_in (nI e) 8 = true := in_nI he (by decide)
      have qce : (nI e).toNatClampNeg = e := nI_clamp (by omega)
      simp only [c_shelf hc hd, c_shelf hc he, Option.bind_some, ab_let, Option.elim_some, Option.elim_none, bd, be, and_self, not_true, if_false, c_emp Fd, c_emp Fe, c_row Fd, c_row Fe, bI_0, decide_eq_false_iff_not, hp 3, hp 4, hp 5, mp_0, mp_1, mp_2, mp_3, mp_4, mp_5, mp_6, mp_7, mp_8, mp_16, mp_19, mp_20, mp_21, mp_22, mp_23, mp_32, mp_39, shp_2, shp_4, shp_6, shp_8, shp_9, shp_10, shp_11, shp_12, shp_13, shp_14, shp_32, shp_33, shp_34, shp_35, shp_36, shp_37, shp_38, shp_39, shp_40, shp_41, shp_42, shp_43, shp_44, shp_45, shp_46, shp_47, shp_48, shp_49, qd, qcd, qe, qce, if_true]
      by_cases kd0 : ab_i g 35 d = 0
      · simp only [kd0, not_true, if_false, if_true]
        exact no _
      by_cases ke0 : ab_i g 35 e = 0
      · simp only [kd0, ke0, not_true, if_false, if_true, not_false_eq_true]
        exact no _
      simp only [kd0, ke0, if_false, not_false_eq_true, if_true]
      unfold w_row
      by_cases kd2 : ab_i g 35 d = 2
      · by_cases ke2 : ab_i g 35 e = 2
        · simp only [kd2, ke2, k_20, if_false, if_true]
          have Fe0 := Fe
          rcases Fd with ⟨F1, _⟩ | ⟨F1, _⟩ | ⟨F1, F2, F3, ⟨o, ho, F4⟩, F5, m, F6, F7, F8⟩
          · exact absurd F1 kd0
          · rw [F1] at kd2; exact absurd kd2 (by decide)
          rcases Fe with ⟨G1, _⟩ | ⟨G1, _⟩ | ⟨G1, G2, G3, ⟨o', ho', G4⟩, G5, m', G6, G7, G8⟩
          · exact absurd G1 ke0
          · rw [G1] at ke2; exact absurd ke2 (by decide)
          rw [c_places F6 (F5.trans F7), c_places G6 (G5.trans G7)]
          simp only [F3, G3, Option.bind_some, bI_0, decide_eq_false_iff_not, F7, G7]
          by_cases so : ab_i g 36 d = ab_i g 36 e
          · simp only [so, if_true]
            have z : (0 : Int32).toInt = 0 := rfl
            by_cases a5 : i5 < 0
            · rw [n_lt, z] at a5
              rw [if_pos (show ¬ (0 ≤ i2.toInt ∧ 0 ≤ i5.toInt ∧ i2.toInt + i5.toInt ≤ m) by omega), if_pos (show i5 < 0 by rw [n_lt, z]; exact a5)]
              exact no _
            by_cases a2 : i2 < 0
            · rw [n_lt, z] at a2
              rw [if_pos (show ¬ (0 ≤ i2.toInt ∧ 0 ≤ i5.toInt ∧ i2.toInt + i5.toInt ≤ m) by omega), if_neg a5, if_pos (show i2 < 0 by rw [n_lt, z]; exact a2)]
              exact no _
            have p5 : 0 ≤ i5.toInt := by rw [n_lt, z] at a5; omega
            have p2 : 0 ≤ i2.toInt := by rw [n_lt, z] at a2; omega
            have r2 := n_rng i2
            have r4 := n_rng i4
            have r5 := n_rng i5
            have e2 : (nI m - i2).toInt = (m : Int) - i2.toInt := by
              rw [n_sub (by rw [nI_toInt (by omega)]; omega) (by rw [nI_toInt (by omega)]; omega), nI_toInt (by omega)]
            by_cases a4 : i4 < 0
            · rw [if_neg a5, if_neg a2, if_pos a4]
              rw [n_lt, z] at a4
              by_cases c1 : 0 ≤ i2.toInt ∧ 0 ≤ i5.toInt ∧ i2.toInt + i5.toInt ≤ m
              · rw [if_neg (not_not_intro c1), if_pos (show ¬ (0 ≤ i4.toInt ∧ 0 ≤ i5.toInt ∧ i4.toInt + i5.toInt ≤ m') by omega)]
                exact no _
              · rw [if_pos c1]
                exact no _
            rw [if_neg a5, if_neg a2, if_neg a4]
            have p4 : 0 ≤ i4.toInt := by rw [n_lt, z] at a4; omega
            have e4 : (nI m' - i4).toInt = (m' : Int) - i4.toInt := by
              rw [n_sub (by rw [nI_toInt (by omega)]; omega) (by rw [nI_toInt (by omega)]; omega), nI_toInt (by omega)]
            by_cases c1 : 0 ≤ i2.toInt ∧ 0 ≤ i5.toInt ∧ i2.toInt + i5.toInt ≤ m
            · rw [if_neg (not_not_intro c1), if_neg (show ¬ nI m - i2 < i5 by rw [n_lt, e2]; omega)]
              by_cases c2 : 0 ≤ i4.toInt ∧ 0 ≤ i5.toInt ∧ i4.toInt + i5.toInt ≤ m'
              · rw [if_neg (not_not_intro c2), if_pos (show i5 ≤ nI m' - i4 by rw [n_le, e4]; omega)]
                obtain ⟨x2, hx2, rfl⟩ := n_in (n := 101) (x := i2) p2 (by omega)
                obtain ⟨x4, hx4, rfl⟩ := n_in (n := 101) (x := i4) p4 (by omega)
                obtain ⟨x5, hx5, rfl⟩ := n_in (n := 101) (x := i5) p5 (by omega)
                rw [nI_toInt (by omega), nI_toInt (by omega)] at c1 c2
                have ok : ab_cpok (nI x2) (nI x4) (nI x5) 100 100 = true := by
                  simp only [ab_cpok, nI_lt0 (show x2 < 2 ^ 31 by omega), nI_lt0 (show x4 < 2 ^ 31 by omega), nI_lt0 (show x5 < 2 ^ 31 by omega), nI_clamp (show x2 < 2 ^ 31 by omega), nI_clamp (show x4 < 2 ^ 31 by omega), nI_clamp (show x5 < 2 ^ 31 by omega), decide_false, Bool.not_false, Bool.true_and, Bool.and_eq_true, decide_eq_true_eq]
                  omega
                obtain ⟨w, w0, w1, w2, w3⟩ := m_cpy hd he (show x2 + x5 ≤ 100 by omega) (show x4 + x5 ≤ 100 by omega) g hp
                simp only [sh_el hc hd, sh_el hc he, Option.bind_some, ab_let, Option.elim_some, Option.elim_none, sh_shp hd, sh_shp he, ok, if_true, w0, nI_clamp (show x2 < 2 ^ 31 by omega), nI_clamp (show x4 < 2 ^ 31 by omega), nI_clamp (show x5 < 2 ^ 31 by omega)]
                refine ⟨_, _, w, rfl, rfl, ?_, ?_, ?_⟩
                · intro r h1 h2 k
                  exact ⟨by rw [hi_cp, if_neg (by omega)], rfl, rfl⟩
                · exact ⟨w1, fun r hr k => ⟨by rw [w3, if_neg (by omega)], w2 r k⟩⟩
                · refine gr_shelf H0 he rfl (fun r k _ => rfl) ?_ w2 ?_ ?_ ?_ ?_
                  · intro r b h1 h2
                    rw [hi_cp, if_neg (by omega)]
                  · intro r b h1 h2
                    rw [w3, if_neg (by omega)]
                  · intro r b h1 h2 h3 h4
                    rw [w3, if_neg (by omega)]
                  · intro b hb
                    rw [w3, if_neg (by omega)]
                  · refine Or.inr (Or.inr ⟨?_, G2, ?_, ⟨o', ho', ?_⟩, ?_, m', G6, ?_, ?_⟩)
                    · rw [w3, if_neg (by omega)]; exact G1
                    · rw [hi_cp, if_neg (by omega), w3, if_neg (by omega)]; exact G3
                    · rw [w3, if_neg (by omega)]; exact G4
                    · rw [hi_cp, if_neg (by omega), w3, if_neg (by omega)]; exact G5
                    · rw [w3, if_neg (by omega)]; exact G7
                    · intro b hb
                      rw [hi_cp, if_pos rfl, w3]
                      unfold va_cpy
                      by_cases q : x4 ≤ b ∧ b < x4 + x5
                      · rw [if_pos q, if_pos (by omega), show 100 * d + x2 + (100 * e + b - (100 * e + x4)) = 100 * d + (x2 + (b - x4)) by omega]
                        exact F8 _ (by omega)
                      · rw [if_neg q, if_neg (by omega)]
                        exact G8 b hb
              · rw [if_pos c2, if_neg (show ¬ i5 ≤ nI m' - i4 by rw [n_le, e4]; omega)]
                exact no _
            · rw [if_pos c1, if_pos (show nI m - i2 < i5 by rw [n_lt, e2]; omega)]
              exact no _
          · simp only [so, if_false]
            exact no _
        · simp only [kd2, ke2, ke0, k_20, k_m120, if_false, if_true]
          exact no _
      · simp only [kd2, kd0, k_m120, if_false]
        exact no _
    · have be : ¬ (0 ≤ i3.toInt ∧ i3.toInt < 8) := by omega
      simp only [c_shelf hc hd, c_shelff hc hn3, Option.bind_some, ab_let, Option.elim_some, Option.elim_none, bd, be, and_self, not_true, not_false_eq_true, if_false, if_true]
      exact no _
  · have bd : ¬ (0 ≤ i1.toInt ∧ i1.toInt < 8) := by omega
    rcases i_split 8 (by decide) i3 with ⟨e, he, rfl⟩ | hn3
    · simp only [c_shelff hc hn, c_shelf hc he, Option.bind_some, ab_let, Option.elim_some, Option.elim_none, bd, not_false_eq_true, if_true]
      exact no _
    · simp only [c_shelff hc hn, c_shelff hc hn3, Option.bind_some, ab_let, Option.elim_some, Option.elim_none, bd, not_false_eq_true, if_true]
      exact no _
end CPW
