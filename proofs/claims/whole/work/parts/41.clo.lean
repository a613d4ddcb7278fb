section CLO
theorem c_evens {h : ab_HP} (hc : cp h) {n : Nat} {li : Nat → Nat} {s : Nat → Int32} (hl : cl h n li s) (ht : ct h s) (nails : Int32) (z : zS) : ∀ (k i : Nat), i + k = n → ∀ f, k < f → f_X10_evenYear_l2 7 f nails (nI i) (z_put h (z_evens s li nails i z)) = some (z_put h (z_evens s li nails n z))
  | 0, i, e, f + 1, _ => by
    have e : i = n := by omega
    subst e
    rw [f_X10_evenYear_l2]
    simp only [z_a5, hl.2.1]
    rw [if_pos (nI_le (Nat.le_refl _) (by have := hl.1; omega))]
  | k + 1, i, e, f + 1, hf => by
    have hn := hl.1
    have hnl : ¬ nI n ≤ nI i := nI_ge (by omega) (by omega)
    rw [f_X10_evenYear_l2]
    simp only [z_a5, hl.2.1, hnl, if_false, c_even1 hc hl ht (show i < n by omega), Option.bind_some, nI_1]
    exact c_evens hc hl ht nails z k (i + 1) (by omega) f (by omega)
  | _, _, _, 0, h => absurd h (Nat.not_lt_zero _)
theorem c_even {h : ab_HP} (hc : cp h) {n : Nat} {li : Nat → Nat} {s : Nat → Int32} (hl : cl h n li s) (ht : ct h s) (nails : Int32) (z : zS) : f_X10_evenYear 7 nails (z_put h z) = some (z_put h (z_evens s li nails n z)) :=
  c_evens hc hl ht nails z n 0 (by omega) 1000 (by have := hl.1; omega)
theorem c_undo {h : ab_HP} (hc : cp h) {n : Nat} {li : Nat → Nat} {s : Nat → Int32} (hl : cl h n li s) {i : Nat} (hi : i < n) (z : zS) : f_X10_undo 7 (nI i) (z_put h z) = some (z_put h (z_undo s li i z)) := by
  have hn := hl.1
  obtain ⟨h8, r, hr, hd⟩ := hl.2.2 i hi
  obtain ⟨m, c, p, dn, un, nl, fm, fl, MD, LS⟩ := z
  unfold f_X10_undo
  simp only [c_deedAt hc hl hi, hr, Option.bind_some, ab_let, Option.elim_some, Option.elim_none, z_a4, z_a5, z_a6, z_a7, z_a8, z_a9, z_a10, z_a11, z_a12, z_a13, z_b9, z_b10, z_t, z_r, z_l, z_1, z_d h _ _ hd.1, hc 0 0 1 rfl, hc 0 1 3 rfl, hc 0 2 5 rfl, hc 0 3 7 rfl, hc 0 4 11 rfl, hc 0 5 12 rfl, hc 0 6 13 rfl, hc 0 7 14 rfl, hc 1 0 2 rfl, hc 3 0 4 rfl, hc 5 0 6 rfl, hc 7 0 8 rfl, hc 7 1 9 rfl, hc 7 2 10 rfl, c_at9 (show i < 16 by omega), c_at10 (show i < 16 by omega), z_p6, z_p7, z_p8, z_p9, z_p10, z_p11, z_p12, z_p13, z_q9, z_q10, hd.2.2.2.1, z_undo]
theorem c_stays {h : ab_HP} (hc : cp h) {n : Nat} {li : Nat → Nat} {s : Nat → Int32} (hl : cl h n li s) (z : zS) (i : Nat) : ∀ (c k : Nat), k + c = n → ∀ f, c < f → f_X10_stays_l32 7 f (z.2.2.2.2.2.2.2.2.1 i ||| z.2.2.2.2.2.2.2.2.2 i) (nI k) (z_put h z) = some (bI (y_some (z_stayq s li z i) c k))
  | 0, k, e, f + 1, _ => by
    have e : k = n := by omega
    subst e
    rw [f_X10_stays_l32]
    simp only [z_a5, hl.2.1]
    rw [if_pos (nI_le (Nat.le_refl _) (by have := hl.1; omega))]
    rfl
  | c + 1, k, e, f + 1, hf => by
    have hk : k < n := by omega
    have hn := hl.1
    have hnl : ¬ nI n ≤ nI k := nI_ge hk (by omega)
    obtain ⟨h8, r, hr, hd⟩ := hl.2.2 k hk
    have ih := c_stays hc hl z i c (k + 1) (by omega) f (by omega)
    rw [f_X10_stays_l32]
    simp only [z_a5, hl.2.1, hnl, if_false, c_deedAt hc hl hk, hr, Option.bind_some, ab_let, Option.elim_some, Option.elim_none, z_a12, c_has _ (show k < 32 by omega), bI_0, nI_1, ih, z_d h _ _ hd.1, hd.2.1.2.1, y_some, z_stayq, z_firm]
    cases bt z.2.2.2.2.2.2.1 k
    · simp only [if_true, Bool.false_and, Bool.false_or]
    · by_cases h : t_g s (li k) 1 &&& (z.2.2.2.2.2.2.2.2.1 i ||| z.2.2.2.2.2.2.2.2.2 i) = 0
      · simp only [if_true, Bool.true_eq_false, if_false, h, decide_true, Bool.not_true, Bool.and_false, Bool.false_or]
      · simp only [if_true, Bool.true_eq_false, if_false, h, decide_false, Bool.not_false, Bool.and_true, Bool.true_or, bI_t]
  | _, _, _, 0, h => absurd h (Nat.not_lt_zero _)
theorem c_fell {h : ab_HP} (k : Nat) (z : zS) : ab_ip (z_put h z) 7 13 (ab_i (z_put h z) 7 13 ||| pbit k) = z_put h (z_fell k z) := by
  obtain ⟨m, c, p, dn, un, nl, fm, fl, MD, LS⟩ := z
  rw [z_p13]
  rfl
theorem c_fallp {h : ab_HP} (hc : cp h) {n : Nat} {li : Nat → Nat} {s : Nat → Int32} (hl : cl h n li s) (k4 : Int32 → Int32 → ab_HP → Option ab_HP) (rd : Int32) : ∀ (k : Nat) (m : Bool) (z : zS), k ≤ n → ∀ f, k < f → f_X10_letFall_l25 k4 7 f (bI m) rd (nI k - 1) (z_put h z) = k4 (bI (z_fallp s li k m z).1) (rd + 1) (z_put h (z_fallp s li k m z).2)
  | 0, m, z, _, f + 1, _ => by
    rw [f_X10_letFall_l25]
    simp only [i_neg, if_true]
    rfl
  | k + 1, m, z, hk, f + 1, hf => by
    have hn := hl.1
    obtain ⟨h8, r, hr, hd⟩ := hl.2.2 k (by omega)
    have hge : (nI k < 0) = False := nI_lt0 (by omega)
    have ih1 := fun m z => c_fallp hc hl k4 rd k m z (by omega) f (by omega)
    have ih2 := ih1 true
    rw [bI_t] at ih2
    rw [f_X10_letFall_l25]
    simp only [nI_pred, hge, if_false, c_deedAt hc hl (show k < n by omega), hr, Option.bind_some, ab_let, Option.elim_some, Option.elim_none, z_a4, z_a5, z_a6, z_a7, z_a8, z_a9, z_a10, z_a11, z_a12, z_a13, z_b9, z_b10, z_t, z_r, z_l, z_1, c_has _ (show k < 32 by omega), bI_0, c_ground hd, i_m1, ih1, c_undo hc hl (show k < n by omega), z_fallp, z_firm, z_und]
    rcases Bool.eq_false_or_eq_true (bt (z.2.2.2.2.2.2.1 &&& (z.2.2.2.2.1 ^^^ (-1))) k) with hb | hb
    rotate_left
    · simp only [hb, if_true, Bool.false_eq_true, false_and, if_false]
    · by_cases hq : t_lack s (li k) z.1 = 0
      · simp only [hb, Bool.true_eq_false, if_false, hq, decide_true, if_true, ne_eq, not_true, and_false]
      · simp only [hb, Bool.true_eq_false, if_false, hq, decide_false, if_true, ne_eq, not_false_eq_true, and_self]
        have := c_fell (h := h) k (z_undo s li k z)
        rw [z_a13] at this
        rw [this]
        exact ih2 _
  | _, _, _, _, 0, h => absurd h (Nat.not_lt_zero _)
theorem c_falls {h : ab_HP} (hc : cp h) {n : Nat} {li : Nat → Nat} {s : Nat → Int32} (hl : cl h n li s) : ∀ (f i : Nat) (z : zS), i + f = n + 1 → ∀ F, f < F → f_X10_letFall_l4 7 F (bI true) (nI i) (z_put h z) = some (z_put h (z_falls s li n f z))
  | 0, i, z, e, F + 1, _ => by
    have hn := hl.1
    have e : i = n + 1 := by omega
    subst e
    rw [f_X10_letFall_l4]
    simp only [z_a5, hl.2.1]
    rw [if_pos (nI_lt (Nat.lt_succ_self n) (by omega))]
    rfl
  | f + 1, i, z, e, F + 1, hF => by
    have hn := hl.1
    have hnl : ¬ nI n < nI i := nI_nlt (by omega) (by omega)
    have e1 := c_fallp hc hl (f_X10_letFall_l4 7 F) (nI i) n false z (Nat.le_refl _) 1000 (by omega)
    rw [bI_f] at e1
    rw [f_X10_letFall_l4]
    simp only [z_a5, hl.2.1, hnl, if_false, bI_0, Bool.true_eq_false, e1, nI_1]
    rw [z_falls]
    cases hm : (z_fallp s li n false z).1
    · obtain ⟨F, rfl⟩ : ∃ G, F = G + 1 := ⟨F - 1, by omega⟩
      rw [f_X10_letFall_l4]
      simp only [bI_0, if_true, Bool.false_eq_true, if_false, ite_self]
    · rw [if_pos rfl]
      exact c_falls hc hl f (i + 1) _ (by omega) F (by omega)
  | _, _, _, _, 0, h => absurd h (Nat.not_lt_zero _)
theorem c_fallsA {h : ab_HP} (hc : cp h) {n : Nat} {li : Nat → Nat} {s : Nat → Int32} (hl : cl h n li s) (z : zS) : f_X10_letFall 7 (z_put h z) = some (z_put h (z_falls s li n (n + 1) z)) :=
  c_falls hc hl (n + 1) 0 z (by omega) 1000 (by have := hl.1; omega)
theorem c_odd1 {h : ab_HP} (hc : cp h) {n : Nat} {li : Nat → Nat} {s : Nat → Int32} (hl : cl h n li s) {i : Nat} (hi : i < n) (z : zS) (f : Nat) : f_X10_oddYear_l7 7 (f + 1) (nI i) (z_put h z) = f_X10_oddYear_l7 7 f (nI i - 1) (z_put h (z_odd1 s li (ab_i h 7 4) n i z)) := by
  have hn := hl.1
  have hge : (nI i < 0) = False := nI_lt0 (by omega)
  have hst := c_stays hc hl z i (n - (i + 1)) (i + 1) (by omega) 1000 (by omega)
  rw [f_X10_oddYear_l7]
  simp only [hge, if_false, z_a4, z_a5, z_a6, z_a7, z_a8, z_a9, z_a10, z_a11, z_a12, z_a13, z_b9, z_b10, z_t, z_r, z_l, z_1, hc 0 0 1 rfl, hc 0 1 3 rfl, hc 0 2 5 rfl, hc 0 3 7 rfl, hc 0 4 11 rfl, hc 0 5 12 rfl, hc 0 6 13 rfl, hc 0 7 14 rfl, hc 1 0 2 rfl, hc 3 0 4 rfl, hc 5 0 6 rfl, hc 7 0 8 rfl, hc 7 1 9 rfl, hc 7 2 10 rfl, Option.bind_some, ab_let, Option.elim_some, Option.elim_none, c_has _ (show i < 32 by omega), bI_0, i_m1, f_X10_stays, c_at9 (show i < 16 by omega), c_at10 (show i < 16 by omega), nI_1, hst, c_undo hc hl hi, c_fallsA hc hl, z_odd1, z_done, z_firm]
  rcases Bool.eq_false_or_eq_true (bt (z.2.2.2.1 &&& (z.2.2.2.2.2.2.1 ^^^ (-1))) i) with hb | hb
  rotate_left
  · simp only [hb, if_true, Bool.false_eq_true, if_false]
  · simp only [hb, if_true, Bool.true_eq_false, if_false]
    by_cases h2 : ab_i h 7 4 = 1
    · simp only [h2, if_true, true_and, Option.bind_some]
      cases y_some (z_stayq s li z i) (n - (i + 1)) (i + 1)
      · simp only [bI_0, if_true, Bool.false_eq_true, if_false]
        rw [if_neg (by decide), if_neg (by decide)]
      · simp only [bI_0, if_true, Bool.true_eq_false, if_false]
    · simp only [h2, if_false, false_and, Option.bind_some, if_true]
      by_cases h3 : ab_i h 7 4 = 0
      · simp only [h3, if_true]
      · simp only [h3, if_false]
theorem c_odds {h : ab_HP} (hc : cp h) {n : Nat} {li : Nat → Nat} {s : Nat → Int32} (hl : cl h n li s) : ∀ (k : Nat) (z : zS), k ≤ n → ∀ f, k < f → f_X10_oddYear_l7 7 f (nI k - 1) (z_put h z) = some (z_put h (z_odds s li (ab_i h 7 4) n k z))
  | 0, z, _, f + 1, _ => by
    rw [f_X10_oddYear_l7]
    simp only [i_neg, if_true]
    rfl
  | k + 1, z, hk, f + 1, hf => by
    rw [nI_pred, c_odd1 hc hl (by omega), c_odds hc hl k _ (by omega) f (by omega)]
    rfl
  | _, _, _, 0, h => absurd h (Nat.not_lt_zero _)
theorem c_odd {h : ab_HP} (hc : cp h) {n : Nat} {li : Nat → Nat} {s : Nat → Int32} (hl : cl h n li s) (z : zS) : f_X10_oddYear 7 (z_put h z) = some (z_put h (z_odds s li (ab_i h 7 4) n n z)) := by
  have hn := hl.1
  unfold f_X10_oddYear
  simp only [z_a5, hl.2.1]
  exact c_odds hc hl n z (Nat.le_refl _) 1000 (by omega)
end CLO
