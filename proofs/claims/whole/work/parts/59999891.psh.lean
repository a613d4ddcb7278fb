section PSH
theorem zE_r : ∀ r, r < 31 → ∀ k, k < 8 → cp_tab r k = none ∨ ab_r zE r k = cp_tab r k := by decide +kernel
theorem zE_m : ∀ k, k < 40 → ab_r zE 31 k = mp_tab k := by decide +kernel
theorem zE_s : ∀ d, d < 8 → ab_i zE 35 d = 0 ∧ ab_r zE (15 + 2 * d) 1 = none ∧ ab_i zE (15 + 2 * d) 2 = -1 := by decide +kernel
theorem zE_t : (ab_i zE 1 1 = ab_i zE 32 6 ∧ ab_i zE 1 2 = ab_i zE 32 0 ∧ ab_i zE 1 3 = ab_i zE 32 1 ∧ ab_i zE 1 4 = ab_i zE 32 3 ∧ ab_i zE 1 5 = ab_i zE 32 4 ∧ ab_i zE 1 6 = ab_i zE 32 5 ∧ ab_i zE 1 7 = ab_i zE 32 2) ∧ ab_i zE 32 6 = nI 0 ∧ ab_i zE 32 0 = nI 0 ∧ ab_i zE 32 1 = nI 100 ∧ ab_i zE 32 3 = nI 0 ∧ ab_i zE 32 4 = nI 10 ∧ ab_i zE 0 9 = ab_i zE 31 9 ∧ ab_i zE 31 9 = 0 := by decide +kernel
theorem cp_far {r k : Nat} (h : ¬ (r < 31 ∧ k < 8)) : cp_tab r k = none := by
  unfold cp_tab
  by_cases e : r = 0
  · rw [if_pos e, if_neg (by omega), if_neg (by omega), if_neg (by omega), if_neg (by omega), if_neg (by omega)]
  · rw [if_neg e, if_neg (by omega), if_neg (by omega), if_neg (by omega), if_neg (by omega), if_neg (by omega), if_neg (by omega)]
theorem zE_f {k : Nat} (h : 40 ≤ k) : ab_r zE 31 k = none := by
  unfold zE zD zC17 zC16 zC15 zC14 zC13 zC12 zC11 zC10 zC9 zC8 zC7 zC6 zC5 zC4 zC3 zC2 zC1 zC0
  simp only [hr_nwl, hr_rp, hr_ip, show ¬ k = 0 by omega, show ¬ k = 1 by omega, show ¬ k = 2 by omega, show ¬ k = 3 by omega, show ¬ k = 4 by omega, show ¬ k = 5 by omega, show ¬ k = 6 by omega, show ¬ k = 7 by omega, show ¬ k = 8 by omega, show ¬ k = 16 by omega, show ¬ k = 19 by omega, show ¬ k = 20 by omega, show ¬ k = 21 by omega, show ¬ k = 22 by omega, show ¬ k = 23 by omega, show ¬ k = 32 by omega, show ¬ k = 39 by omega, and_false, if_false, Nat.reduceEqDiff, if_true]
theorem gr_zE : gr zE zE := by
  obtain ⟨t1, t2, t3, t4, t5, t6, t7, t8⟩ := zE_t
  refine ⟨?_, ?_, Nat.le_refl 50, ⟨0, ⟨by decide, t2, ⟨0, by decide, t3⟩, ⟨100, by decide, t4⟩, ⟨0, by decide, t5⟩, ⟨10, by decide, t6⟩, fun d hd => absurd hd (Nat.not_lt_zero d)⟩, t1, fun d hd => absurd hd (Nat.not_lt_zero d)⟩, ⟨t7, Or.inl t8⟩, fun d hd => Or.inl (zE_s d hd)⟩
  · intro r k v hv
    by_cases q : r < 31 ∧ k < 8
    · rcases zE_r r q.1 k q.2 with e | e
      · rw [e] at hv; cases hv
      · rw [e]; exact hv
    · rw [cp_far q] at hv; cases hv
  · intro k
    by_cases q : k < 40
    · exact zE_m k q
    · rw [zE_f (by omega)]
      unfold mp_tab
      rw [if_neg (by omega), if_neg (by omega), if_neg (by omega), if_neg (by omega), if_neg (by omega), if_neg (by omega), if_neg (by omega), if_neg (by omega), if_neg (by omega)]
/-- the law says yes -/
theorem law_one (L : Nat) (hL : L ≤ 3072) (xs : Nat → Int32) : ∃ u, f_L_law L xs z00 = some (1, u) := by
  obtain ⟨w, e⟩ := lw_loop L hL xs 513 0 zE gr_zE (Nat.zero_le _) (by omega)
  rw [show nI 0 = (0 : Int32) from rfl] at e
  unfold f_L_law
  generalize f_L_law_l23 L xs 513 = G at e ⊢
  have b1 : zB8.1 = 31 := (sB7 0).2.1
  have d1 : zD.1 = 49 := rfl
  refine ⟨w, ?_⟩
  rw [show z00.1 = 0 from rfl, if_pos (show (ab_shp 0).1 = 0 from rfl), let_e, nw_l (show z00.1 = 0 from rfl), show nwl 0 z00 = zA0 from rfl, i_X11, Option.bind_some, b1, if_pos (show (ab_shp 31).1 = 5 from rfl), let_e, nw_l b1, show nwl 31 zB8 = zC0 from rfl, i_X12, Option.bind_some, d1, if_pos (show ab_shp 49 = (7, 1) from rfl), let_e, nw_l d1, show nwl 49 zD = zE from rfl]
  exact e
end PSH
