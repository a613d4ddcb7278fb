section LSP
/-- LEAST NAILS on both sides, behind a list taken -/
theorem lea2 {h g w v : ab_HP} {N : Nat} (ht : tw N (ab_i g 32)) {n : Nat} (hn : n ≤ 8) {li : Nat → Nat} (K : kc w N (ab_i g 32) n li) (k2 : ab_i w 1 2 = ab_i g 32 0) (k3 : ab_i w 1 3 = ab_i g 32 1) (A : hm h w) (B : gm g v) (hp : mp v) (hl : ml v n li) (wd : Int32) : ∃ W X, f_X10_leastNails 7 wd w = some (bo (lbest (ab_i g 32) li n wd (2 ^ n)), W) ∧ kc W N (ab_i g 32) n li ∧ hm h W ∧ (∀ a b, a ≠ 7 → a ≠ 9 → a ≠ 10 → ab_i W a b = ab_i w a b) ∧ f_X12_finds 31 wd v = some (bI (lbest (ab_i g 32) li n wd (2 ^ n)).isSome, X) ∧ gm g X ∧ ml X n li ∧ ab_i X 31 30 = bo (lbest (ab_i g 32) li n wd (2 ^ n)) ∧ (∀ b, lbest (ab_i g 32) li n wd (2 ^ n) = some b → ab_i X 31 31 = (lr (ab_i g 32) li n b).2) ∧ kpl v X := by
  have p := p256 hn
  obtain ⟨W, w1, w2, w3, w4⟩ := c_lea ht.1 hn (s := ab_i g 32) (li := li) wd (2 ^ n) 0 w 0 (by omega) K k2 k3 (fun b hb => by cases hb) 1000 (by omega)
  have B0 : gm g (ab_ip v 31 30 (-4)) := B.trans (gm_ip (by omega))
  have o : ∀ r j, ¬ (r = 31 ∧ j = 30) → ab_i (ab_ip v 31 30 (-4)) r j = ab_i v r j := fun r j q => by rw [hi_ip, if_neg q]
  obtain ⟨X, x1, x2, x3, x4, x5, x6⟩ := m_fin hn (s := ab_i g 32) (li := li) wd (2 ^ n) 0 (ab_ip v 31 30 (-4)) (by omega) (mp_ip hp _ _ _) ⟨hl.1, (o 31 24 (by omega)).trans hl.2.1, fun i hi => ⟨(o 42 i (by omega)).trans (hl.2.2 i hi).1, (hl.2.2 i hi).2⟩⟩ B0.s32 (by rw [hi_ip, if_pos ⟨rfl, rfl⟩]; rfl) (fun b hb => by cases hb) 1000 (by omega)
  have l0 : bo (lbest (ab_i g 32) li n wd 0) = -4 := rfl
  rw [l0, show nI 0 = (0 : Int32) from rfl] at w1
  rw [show nI 0 = (0 : Int32) from rfl] at x1
  refine ⟨W, X, by rw [f_X10_leastNails]; exact w1, w2, A.trans w3, w4, by rw [f_X12_finds]; exact x1, B0.trans x2, x3, x4, x5, fun r j q => (x6 r j q).trans (o r j (by omega))⟩
theorem p_least (i j k : Int32) : callp (f_X11_least 0 i j k) (f_X12_least 31 i j k) := by
  intro h g H
  unfold f_X11_least f_X12_least
  simp only [c_marks10, is_0_1023, is_0_2, bI_if, Option.bind_some, ab_let, Option.elim_some, Option.elim_none, bI_0]
  rcases Bool.eq_false_or_eq_true (decide (0 ≤ j ∧ j ≤ 1023)) with hb | hb
  rotate_left
  · simp only [hb, if_true]
    rcases lst3 H i with ⟨e1, _⟩ | ⟨e1, _⟩ | ⟨e1, _⟩ <;> simp only [e1, Option.bind_some, one0, if_true, if_false] <;> exact ⟨_, _, _, rfl, rfl, meq_refl h, ceq_refl g, H⟩
  simp only [hb, Bool.true_eq_false, if_false]
  by_cases b : 0 ≤ k ∧ k ≤ 2
  rotate_left
  · simp only [decide_eq_false b, if_true]
    have e0 : ∀ X : Option (Int32 × ab_HP), (if k < 0 then (some ((-1), h)) else (if k ≤ 2 then X else some ((-1), h))) = some (-1, h) := by
      intro X
      by_cases q : k < 0
      · rw [if_pos q]
      · rw [if_neg q, if_neg (fun q2 => b ⟨by rw [n_lt] at q; rw [n_le]; omega, q2⟩)]
    rw [e0]
    rcases lst3 H i with ⟨e1, _⟩ | ⟨e1, _⟩ | ⟨e1, _⟩ <;> simp only [e1, Option.bind_some, one0, if_true, if_false] <;> exact ⟨_, _, _, rfl, rfl, meq_refl h, ceq_refl g, H⟩
  have b1 : ¬ k < 0 := by rw [n_lt]; have := b.1; rw [n_le] at this; omega
  simp only [decide_eq_true b, Bool.true_eq_false, if_false]
  simp only [b1, b.2, if_false, if_true]
  rcases lst3 H i with ⟨e1, e2, e3, e4⟩ | ⟨e1, a, ha, e2, e3, e4⟩ | ⟨e1, e2, e4, d, n, hd, rfl, hn, es, eg, he, hl⟩
  · simp only [e1, e3, Option.bind_some, if_true, k_m10, if_false]
    exact ⟨_, _, _, rfl, rfl, meq_refl h, ceq_refl g, H⟩
  · simp only [e1, e3, e4, Option.bind_some, one0, ha, if_false]
    exact ⟨_, _, _, rfl, rfl, meq_refl h, ceq_refl g, H⟩
  obtain ⟨w, li, w0, w1, hc, wl, wt, w4, hel, wi, wr, wll⟩ := c_take H hd hn es he e2 hl
  have A := hm_take w1 wi wr wll
  have H0 := H
  obtain ⟨hc0, hp0, h50, ⟨N, ht, hd1⟩, hi, hs⟩ := H
  obtain ⟨v, v0, B, hp, vl, v25, vy⟩ := m_tk hp0 hd hn eg hel 0
  have k2 : ab_i w 1 2 = ab_i g 32 0 := by rw [A.2.1 1 2 (by omega)]; exact hd1.1.2.1
  have k3 : ab_i w 1 3 = ab_i g 32 1 := by rw [A.2.1 1 3 (by omega)]; exact hd1.1.2.2.1
  obtain ⟨W, X, r1, r2, r3, r4, r5, r6, r7, r8, r9, _⟩ := lea2 ht hn ⟨hc, td_hm A ht.1 hd1, wl, wt, w4⟩ k2 k3 A B hp vl j
  generalize f_X10_leastNails = LN at r1 ⊢
  generalize f_X12_finds = FD at r5 ⊢
  simp only [e1, e4, w0, Option.bind_some, one0, if_true, if_false, hc 0 0 1 rfl, hc 0 1 3 rfl, hc 0 2 5 rfl, hc 0 3 7 rfl, hc 0 4 11 rfl, hc 0 5 12 rfl, hc 0 6 13 rfl, hc 0 7 14 rfl, hc 1 0 2 rfl, hc 3 0 4 rfl, hc 5 0 6 rfl, hc 7 0 8 rfl, hc 7 1 9 rfl, hc 7 2 10 rfl, r1, v0, r5, bI_0]
  have p := p256 hn
  have hW := r3.cp hc0
  rcases hlb : lbest (ab_i g 32) li n j (2 ^ n) with _ | b'
  · simp only [bo, k_0m4, if_false, Option.isSome_none, if_true]
    exact ⟨_, _, _, rfl, rfl, r3.meq, r6.ceq, gr_mind H0 r3 r6⟩
  · have hbk := lbest_lt _ _ _ _ _ b' hlb
    rw [hlb] at r8
    simp only [bo] at r8
    have r9' := r9 b' hlb
    have e30 : (0 ≤ nI b') = True := eq_true (nI_pos' (by omega))
    simp only [bo, e30, if_true, Option.isSome_some, Bool.true_eq_false, if_false, bc_nI (show b' < 65536 by omega), r8, m_bits (show b' < 65536 by omega), Option.bind_some, r9']
    by_cases k0 : k = 0
    · simp only [k0, if_true]
      exact ⟨_, _, _, rfl, rfl, r3.meq, r6.ceq, gr_mind H0 r3 r6⟩
    by_cases k2' : k = 2
    · simp only [k2', k_20, k_21, if_true, if_false]
      exact ⟨_, _, _, rfl, rfl, r3.meq, r6.ceq, gr_mind H0 r3 r6⟩
    · have k1 : k = 1 := by
        rw [n_eq] at k0 k2' ⊢
        have b1 := b.1
        have b2 := b.2
        rw [n_le] at b1 b2
        have e0 : (0 : Int32).toInt = 0 := rfl
        have e1 : (1 : Int32).toInt = 1 := rfl
        have e2 : (2 : Int32).toInt = 2 := rfl
        omega
      have q2 : ab_i W 1 2 = ab_i g 32 0 := by rw [r4 1 2 (by decide) (by decide) (by decide)]; exact k2
      have q3 : ab_i W 1 3 = ab_i g 32 1 := by rw [r4 1 3 (by decide) (by decide) (by decide)]; exact k3
      have cpl := c_play r2.1 r2.2.2.1 r2.2.2.2.1 r2.2.2.2.2 q2 q3 (nI b')
      have zl := lr_z (show n ≤ 16 by omega) (ab_i g 32) li b' (ab_i W 9) (ab_i W 10)
      generalize z_odds (ab_i g 32) li (ab_i g 32 3) n n (z_evens (ab_i g 32) li (nI b') n (ab_i g 32 0, ab_i g 32 1, 0, 0, 0, 0, 0, 0, ab_i W 9, ab_i W 10)) = z at cpl zl
      have A2 := r3.trans (hm_z W z)
      have hc := hW
      simp only [k1, one0, if_false, if_true, show ((1 : Int32) = 2) = False from k_12, hc 0 0 1 rfl, hc 0 1 3 rfl, hc 0 2 5 rfl, hc 0 3 7 rfl, hc 0 4 11 rfl, hc 0 5 12 rfl, hc 0 6 13 rfl, hc 0 7 14 rfl, hc 1 0 2 rfl, hc 3 0 4 rfl, hc 5 0 6 rfl, hc 7 0 8 rfl, hc 7 1 9 rfl, hc 7 2 10 rfl, Option.bind_some, cpl, z_r, z_a8, zl.2]
      exact ⟨_, _, _, rfl, rfl, A2.meq, r6.ceq, gr_mind H0 A2 r6⟩
end LSP
