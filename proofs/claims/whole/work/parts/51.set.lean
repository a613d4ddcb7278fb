section SETC
theorem gr_law {h g : ab_HP} (H : gr h g) {v : Int32} (hv : ∃ l, l < 3 ∧ v = nI l) : gr (ab_ip h 1 4 v) (ab_ip g 32 3 v) := by
  have H0 := H
  obtain ⟨hc, hp, h50, ⟨N, ht, hd⟩, hi, hs⟩ := H
  obtain ⟨d1, d2, d3, d4, d5, d6, d7⟩ := hd.1
  refine gr_town H0 (Nat.le_refl _) (fun r k _ _ _ _ => rfl) ?_ ?_ (fun k => hp k) ?_ ?_ ?_ ?_ ?_ ?_ ?_ ?_ ?_ ?_ ?_ ?_ ?_ ?_ ?_
  · intro r k h1 h2
    rw [hi_ip, if_neg (by omega)]
  · rw [hi_ip, if_neg (by omega)]
  · rw [hi_ip, if_neg (by omega)]
  · intro k
    rw [hi_ip, if_neg (by omega)]
  · intro r h1 h2 k
    rw [hi_ip, if_neg (by omega)]
  · intro k hk
    rw [hi_ip, if_neg (by omega)]
  · rw [hi_ip, if_neg (by omega)]
  · rw [hi_ip, hi_ip, if_neg (by omega), if_neg (by omega)]; exact d2
  · rw [hi_ip, hi_ip, if_neg (by omega), if_neg (by omega)]; exact d3
  · rw [hi_ip, hi_ip, if_pos ⟨rfl, rfl⟩, if_pos ⟨rfl, rfl⟩]
  · rw [hi_ip, hi_ip, if_neg (by omega), if_neg (by omega)]; exact d5
  · rw [hi_ip, hi_ip, if_neg (by omega), if_neg (by omega)]; exact d6
  · rw [hi_ip, hi_ip, if_neg (by omega), if_neg (by omega)]; exact d7
  · rw [hi_ip, if_neg (by omega)]; exact ht.2.2.1
  · rw [hi_ip, if_neg (by omega)]; exact ht.2.2.2.1
  · rw [hi_ip, if_pos ⟨rfl, rfl⟩]; exact hv
  · rw [hi_ip, if_neg (by omega)]; exact ht.2.2.2.2.2.1
theorem gr_nail {h g : ab_HP} (H : gr h g) {v : Int32} (hv : ∃ a, a < 100 ∧ v = nI a) : gr (ab_ip h 1 5 v) (ab_ip g 32 4 v) := by
  have H0 := H
  obtain ⟨hc, hp, h50, ⟨N, ht, hd⟩, hi, hs⟩ := H
  obtain ⟨d1, d2, d3, d4, d5, d6, d7⟩ := hd.1
  refine gr_town H0 (Nat.le_refl _) (fun r k _ _ _ _ => rfl) ?_ ?_ (fun k => hp k) ?_ ?_ ?_ ?_ ?_ ?_ ?_ ?_ ?_ ?_ ?_ ?_ ?_ ?_ ?_
  · intro r k h1 h2
    rw [hi_ip, if_neg (by omega)]
  · rw [hi_ip, if_neg (by omega)]
  · rw [hi_ip, if_neg (by omega)]
  · intro k
    rw [hi_ip, if_neg (by omega)]
  · intro r h1 h2 k
    rw [hi_ip, if_neg (by omega)]
  · intro k hk
    rw [hi_ip, if_neg (by omega)]
  · rw [hi_ip, if_neg (by omega)]
  · rw [hi_ip, hi_ip, if_neg (by omega), if_neg (by omega)]; exact d2
  · rw [hi_ip, hi_ip, if_neg (by omega), if_neg (by omega)]; exact d3
  · rw [hi_ip, hi_ip, if_neg (by omega), if_neg (by omega)]; exact d4
  · rw [hi_ip, hi_ip, if_pos ⟨rfl, rfl⟩, if_pos ⟨rfl, rfl⟩]
  · rw [hi_ip, hi_ip, if_neg (by omega), if_neg (by omega)]; exact d6
  · rw [hi_ip, hi_ip, if_neg (by omega), if_neg (by omega)]; exact d7
  · rw [hi_ip, if_neg (by omega)]; exact ht.2.2.1
  · rw [hi_ip, if_neg (by omega)]; exact ht.2.2.2.1
  · rw [hi_ip, if_neg (by omega)]; exact ht.2.2.2.2.1
  · rw [hi_ip, if_pos ⟨rfl, rfl⟩]; exact hv
theorem gr_coins {h g : ab_HP} (H : gr h g) {v : Int32} (hv : ∃ c, c ≤ 9999 ∧ v = nI c) : gr (ab_ip h 1 3 v) (ab_ip g 32 1 v) := by
  have H0 := H
  obtain ⟨hc, hp, h50, ⟨N, ht, hd⟩, hi, hs⟩ := H
  obtain ⟨d1, d2, d3, d4, d5, d6, d7⟩ := hd.1
  refine gr_town H0 (Nat.le_refl _) (fun r k _ _ _ _ => rfl) ?_ ?_ (fun k => hp k) ?_ ?_ ?_ ?_ ?_ ?_ ?_ ?_ ?_ ?_ ?_ ?_ ?_ ?_ ?_
  · intro r k h1 h2
    rw [hi_ip, if_neg (by omega)]
  · rw [hi_ip, if_neg (by omega)]
  · rw [hi_ip, if_neg (by omega)]
  · intro k
    rw [hi_ip, if_neg (by omega)]
  · intro r h1 h2 k
    rw [hi_ip, if_neg (by omega)]
  · intro k hk
    rw [hi_ip, if_neg (by omega)]
  · rw [hi_ip, if_neg (by omega)]
  · rw [hi_ip, hi_ip, if_neg (by omega), if_neg (by omega)]; exact d2
  · rw [hi_ip, hi_ip, if_pos ⟨rfl, rfl⟩, if_pos ⟨rfl, rfl⟩]
  · rw [hi_ip, hi_ip, if_neg (by omega), if_neg (by omega)]; exact d4
  · rw [hi_ip, hi_ip, if_neg (by omega), if_neg (by omega)]; exact d5
  · rw [hi_ip, hi_ip, if_neg (by omega), if_neg (by omega)]; exact d6
  · rw [hi_ip, hi_ip, if_neg (by omega), if_neg (by omega)]; exact d7
  · rw [hi_ip, if_neg (by omega)]; exact ht.2.2.1
  · rw [hi_ip, if_pos ⟨rfl, rfl⟩]; exact hv
  · rw [hi_ip, if_neg (by omega)]; exact ht.2.2.2.2.1
  · rw [hi_ip, if_neg (by omega)]; exact ht.2.2.2.2.2.1
theorem ek_0_0 : (nI 0 = 0) = True := eq_true rfl
theorem ek_0_1 : (nI 0 = 1) = False := eq_false (by decide)
theorem ek_0_2 : (nI 0 = 2) = False := eq_false (by decide)
theorem ek_1_0 : (nI 1 = 0) = False := eq_false (by decide)
theorem ek_1_1 : (nI 1 = 1) = True := eq_true rfl
theorem ek_1_2 : (nI 1 = 2) = False := eq_false (by decide)
theorem ek_2_0 : (nI 2 = 0) = False := eq_false (by decide)
theorem ek_2_1 : (nI 2 = 1) = False := eq_false (by decide)
theorem is_in (i : Int32) {a b : Int32} : (a ≤ i ∧ i ≤ b) ↔ (a.toInt ≤ i.toInt ∧ i.toInt ≤ b.toInt) := by rw [n_le, n_le]
theorem p_set (i j : Int32) : callp (f_X11_set 0 i j) (f_X12_set 31 i j) := by
  intro h g H
  have H0 := H
  obtain ⟨hc, hp, h50, ⟨N, ht, hd⟩, hi, hs⟩ := H
  obtain ⟨d1, d2, d3, d4, d5, d6, d7⟩ := hd.1
  unfold f_X11_set f_X12_set f_X9_changeLaw f_X9_changeNail f_X9_changeCoins
  rw [is_0_2, is_0_2, is_0_99, is_0_9999]
  simp only [hc 0 0 1 rfl, hc 0 1 3 rfl, hc 0 2 5 rfl, hc 0 3 7 rfl, hc 0 4 11 rfl, hc 0 5 12 rfl, hc 0 6 13 rfl, hc 0 7 14 rfl, hc 1 0 2 rfl, hc 3 0 4 rfl, hc 5 0 6 rfl, hc 7 0 8 rfl, hc 7 1 9 rfl, hc 7 2 10 rfl, hp 0, mp_0, mp_1, mp_2, mp_3, mp_4, mp_5, mp_6, mp_7, mp_8, mp_16, mp_19, mp_20, mp_21, mp_22, mp_23, mp_32, mp_39, shp_2, shp_4, shp_6, shp_8, shp_9, shp_10, shp_11, shp_12, shp_13, shp_14, shp_32, shp_33, shp_34, shp_35, shp_36, shp_37, shp_38, shp_39, shp_40, shp_41, shp_42, shp_43, shp_44, shp_45, shp_46, shp_47, shp_48, shp_49, Option.bind_some, ab_let, Option.elim_some, Option.elim_none, in_l0, in_l1, in_l2, in_l3, in_l4, in_l5, in_l6, lit_c0, lit_c1, lit_c2, lit_c3, lit_c4, lit_c5, lit_c6, Nat.reduceLT, decide_true, if_true, bI_if, bI_0, decide_eq_false_iff_not]
  rcases i_split 3 (by decide) i with ⟨k, hk, rfl⟩ | hn
  · have e : (0 : Int32) ≤ nI k ∧ nI k ≤ 2 := ⟨nI_pos' (by omega), nI_le (b := 2) (by omega) (by decide)⟩
    simp only [e, and_self, not_true, if_false]
    rcases (by omega : k = 0 ∨ k = 1 ∨ k = 2) with rfl | rfl | rfl
    · simp only [ek_0_0, ek_0_1, ek_0_2, ek_1_0, ek_1_1, ek_1_2, ek_2_0, ek_2_1, ek_2_2, if_true, if_false]
      rcases i_split 3 (by decide) j with ⟨l, hl, rfl⟩ | hj
      · have e : (0 : Int32) ≤ nI l ∧ nI l ≤ 2 := ⟨nI_pos' (by omega), nI_le (b := 2) (by omega) (by decide)⟩
        have e3 : nI l < 3 := nI_lt (b := 3) hl (by decide)
        simp only [nI_lt0 (show l < 2 ^ 31 by omega), e3, e, and_self, not_true, if_true, if_false, Option.bind_some]
        refine ⟨_, _, _, rfl, ?_, meq_ip (by omega), ceq_ip (by omega) (by omega), gr_law H0 ⟨l, hl, rfl⟩⟩
        rw [d4]
      · have e : ¬ ((0 : Int32) ≤ j ∧ j ≤ 2) := by
          rw [is_in, l_int0, show (2 : Int32).toInt = 2 from rfl]; omega
        simp only [e, not_false_eq_true, if_true]
        refine ⟨-1, h, g, ?_, rfl, meq_refl h, ceq_refl g, H0⟩
        by_cases q : j < 0
        · simp only [q, if_true, Option.bind_some]
        · have q2 : ¬ j < 3 := by
            rw [n_lt, l_int0] at q
            rw [n_lt, show (3 : Int32).toInt = 3 from rfl]; omega
          simp only [q, q2, if_false, Option.bind_some]
    · simp only [ek_0_0, ek_0_1, ek_0_2, ek_1_0, ek_1_1, ek_1_2, ek_2_0, ek_2_1, ek_2_2, if_true, if_false]
      rcases i_split 100 (by decide) j with ⟨l, hl, rfl⟩ | hj
      · have e : (0 : Int32) ≤ nI l ∧ nI l ≤ 99 := ⟨nI_pos' (by omega), nI_le (b := 99) (by omega) (by decide)⟩
        have e3 : nI l ≤ 99 := e.2
        simp only [nI_lt0 (show l < 2 ^ 31 by omega), e3, e, and_self, not_true, if_true, if_false, Option.bind_some]
        refine ⟨_, _, _, rfl, ?_, meq_ip (by omega), ceq_ip (by omega) (by omega), gr_nail H0 ⟨l, hl, rfl⟩⟩
        rw [d5]
      · have e : ¬ ((0 : Int32) ≤ j ∧ j ≤ 99) := by
          rw [is_in, l_int0, show (99 : Int32).toInt = 99 from rfl]; omega
        simp only [e, not_false_eq_true, if_true]
        refine ⟨-1, h, g, ?_, rfl, meq_refl h, ceq_refl g, H0⟩
        by_cases q : j < 0
        · simp only [q, if_true, Option.bind_some]
        · have q2 : ¬ j ≤ 99 := by
            rw [n_lt, l_int0] at q
            rw [n_le, show (99 : Int32).toInt = 99 from rfl]; omega
          simp only [q, q2, if_false, Option.bind_some]
    · simp only [ek_0_0, ek_0_1, ek_0_2, ek_1_0, ek_1_1, ek_1_2, ek_2_0, ek_2_1, ek_2_2, if_true, if_false]
      rcases i_split 10000 (by decide) j with ⟨l, hl, rfl⟩ | hj
      · have e : (0 : Int32) ≤ nI l ∧ nI l ≤ 9999 := ⟨nI_pos' (by omega), nI_le (b := 9999) (by omega) (by decide)⟩
        have e3 : nI l ≤ 9999 := e.2
        simp only [nI_lt0 (show l < 2 ^ 31 by omega), e3, e, and_self, not_true, if_true, if_false, Option.bind_some]
        refine ⟨_, _, _, rfl, ?_, meq_ip (by omega), ceq_ip (by omega) (by omega), gr_coins H0 ⟨l, by omega, rfl⟩⟩
        rw [d3]
      · have e : ¬ ((0 : Int32) ≤ j ∧ j ≤ 9999) := by
          rw [is_in, l_int0, show (9999 : Int32).toInt = 9999 from rfl]; omega
        simp only [e, not_false_eq_true, if_true]
        refine ⟨-1, h, g, ?_, rfl, meq_refl h, ceq_refl g, H0⟩
        by_cases q : j < 0
        · simp only [q, if_true, Option.bind_some]
        · have q2 : ¬ j ≤ 9999 := by
            rw [n_lt, l_int0] at q
            rw [n_le, show (9999 : Int32).toInt = 9999 from rfl]; omega
          simp only [q, q2, if_false, Option.bind_some]
  · have e : ¬ ((0 : Int32) ≤ i ∧ i ≤ 2) := by
      rw [is_in, l_int0, show (2 : Int32).toInt = 2 from rfl]; omega
    have ne : ∀ k : Nat, k < 3 → ¬ i = nI k := fun k hk => i_ne (by omega) (by omega)
    simp only [e, not_false_eq_true, if_true, (show ¬ i = 0 from ne 0 (by decide)), (show ¬ i = 1 from ne 1 (by decide)), (show ¬ i = 2 from ne 2 (by decide)), if_false]
    exact ⟨-1, h, g, rfl, rfl, meq_refl h, ceq_refl g, H0⟩
end SETC
