section TWQ
theorem tls_of {h g : ab_HP} {N : Nat} (ht : tw N (ab_i g 32)) {d n : Nat} (hd : d < 8) (hn : n ≤ 8) (es : ab_i h (15 + 2 * d) 3 = nI n) (eg : ab_i g 37 d = nI n) (he : ∀ k, k < n → ab_i h (16 + 2 * d) k = g_el g d k) (hl : ∀ N, tw N (ab_i g 32) → p_lr (g_el g d) N n 0 = 0) : tls h g N d n (fun j => (g_el g d j).toNatClampNeg) := by
  refine ⟨hd, hn, es, eg, fun k hk => ?_⟩
  have hN := ht.1
  have b := p_lr_0 n 0 (hl N ht) k (by omega) (by omega)
  obtain ⟨x, hx, ex⟩ := n_in b.1 b.2
  have e1 : nI ((g_el g d k).toNatClampNeg) = g_el g d k := by rw [ex, nI_clamp (by omega)]
  refine ⟨by rw [he k hk, e1], by rw [e1]; rfl, ?_⟩
  show (g_el g d k).toNatClampNeg < N
  rw [ex, nI_clamp (by omega)]
  exact hx
theorem nI_01 {x : Nat} (h : x < 2) : nI x = 0 ∧ x = 0 ∨ nI x = 1 ∧ x = 1 := by
  rcases (by omega : x = 0 ∨ x = 1) with rfl | rfl
  · exact Or.inl ⟨rfl, rfl⟩
  · exact Or.inr ⟨rfl, rfl⟩
theorem p_two (i j k l m : Int32) : callp (f_X11_two 0 i j k l m) (f_X12_two 31 i j k l m) := by
  intro h g H
  unfold f_X11_two f_X12_two
  simp only [c_nails, m_nails, is_0_1, bI_if, Option.bind_some, ab_let, Option.elim_some, Option.elim_none, bI_0]
  have no : ∀ (x : Int32), (∀ x', f_X11_shelfAt 0 x h = some x' → x' = none) → True := fun _ _ => trivial
  rcases i_split 8 (by decide) i with ⟨d, hd, rfl⟩ | hn1
  rotate_left
  · have e3 : f_X12_isShelf i g = some 0 := by rw [m_isShelf, decide_eq_false (by omega), bI_f]
    rcases i_split 8 (by decide) j with ⟨e, he, rfl⟩ | hn2
    · simp only [c_shelff H.1 hn1, c_shelf H.1 he, e3, Option.bind_some, Option.elim_none, if_true]
      exact ⟨_, _, _, rfl, rfl, meq_refl h, ceq_refl g, H⟩
    · simp only [c_shelff H.1 hn1, c_shelff H.1 hn2, e3, Option.bind_some, Option.elim_none, if_true]
      exact ⟨_, _, _, rfl, rfl, meq_refl h, ceq_refl g, H⟩
  have e3 : f_X12_isShelf (nI d) g = some 1 := by rw [m_isShelf, decide_eq_true (by rw [nI_toInt (by omega)]; omega), bI_t]
  rcases i_split 8 (by decide) j with ⟨e, he, rfl⟩ | hn2
  rotate_left
  · have e4 : f_X12_isShelf j g = some 0 := by rw [m_isShelf, decide_eq_false (by omega), bI_f]
    simp only [c_shelff H.1 hn2, c_shelf H.1 hd, e3, e4, Option.bind_some, Option.elim_none, Option.elim_some, one0, if_false, if_true]
    exact ⟨_, _, _, rfl, rfl, meq_refl h, ceq_refl g, H⟩
  have e4 : f_X12_isShelf (nI e) g = some 1 := by rw [m_isShelf, decide_eq_true (by rw [nI_toInt (by omega)]; omega), bI_t]
  simp only [c_shelf H.1 he, c_shelf H.1 hd, e3, e4, Option.bind_some, Option.elim_some, one0, if_false]
  rcases Bool.eq_false_or_eq_true (decide (0 ≤ k ∧ k ≤ 255)) with hb | hb
  rotate_left
  · simp only [hb, if_true]
    exact ⟨_, _, _, rfl, rfl, meq_refl h, ceq_refl g, H⟩
  simp only [hb, Bool.true_eq_false, if_false]
  rcases Bool.eq_false_or_eq_true (decide (0 ≤ l ∧ l ≤ 255)) with hb2 | hb2
  rotate_left
  · simp only [hb2, if_true]
    exact ⟨_, _, _, rfl, rfl, meq_refl h, ceq_refl g, H⟩
  simp only [hb2, Bool.true_eq_false, if_false]
  by_cases b : 0 ≤ m ∧ m ≤ 1
  rotate_left
  · simp only [decide_eq_false b, if_true]
    refine ⟨-1, h, g, ?_, rfl, meq_refl h, ceq_refl g, H⟩
    by_cases q : m < 0
    · rw [if_pos q]
    · rw [if_neg q, if_neg]
      rw [n_lt] at q
      rw [n_le]
      rw [n_le, n_le] at b
      omega
  have b1 : ¬ m < 0 := by rw [n_lt]; have := b.1; rw [n_le] at this; omega
  simp only [decide_eq_true b, Bool.true_eq_false, if_false]
  simp only [b1, b.2, if_false, if_true]
  rcases lst3 H (nI d) with ⟨f1, f2, _, f4⟩ | ⟨f1, a, ha, f2, _, f4⟩ | ⟨f1, f2, f4, d', n1, hd', ed, hn1, es1, eg1, he1, hl1⟩
  · rw [e3] at f1
    exact absurd (Option.some.inj f1) (by decide)
  · simp only [f2, f4, Option.bind_some, ha, if_false, f_X11_two_b71, f_X12_two_b61]
    exact ⟨_, _, _, rfl, rfl, meq_refl h, ceq_refl g, H⟩
  have edd : d = d' := (nI_eq (by omega) (by omega)).mp ed
  subst edd
  simp only [f2, f4, Option.bind_some, if_true]
  rcases lst3 H (nI e) with ⟨g1, g2, _, g4⟩ | ⟨g1, a, ha, g2, _, g4⟩ | ⟨g1, g2, g4, e', n2, he', ee, hn2, es2, eg2, he2, hl2⟩
  · rw [e4] at g1
    exact absurd (Option.some.inj g1) (by decide)
  · simp only [g2, g4, Option.bind_some, ha, if_false, f_X11_two_b71, f_X12_two_b61]
    exact ⟨_, _, _, rfl, rfl, meq_refl h, ceq_refl g, H⟩
  have eee : e = e' := (nI_eq (by omega) (by omega)).mp ee
  subst eee
  simp only [g2, g4, Option.bind_some, if_true, f_X11_two_b71, f_X12_two_b61, f_X11_playTwo, ab_let]
  have H0 := H
  obtain ⟨hc, hp, h50, ⟨N, ht, hdt⟩, hi, hs⟩ := H
  obtain ⟨U, u1, u2, u3, u4⟩ := kc_open hc ht hdt (fun _ => 0)
  have B0 : gm g (ab_ip (ab_ip g 31 24 0) 31 25 0) := (gm_ip (by omega)).trans (gm_ip (by omega))
  have T : tinv h g N (ab_i g 32) 0 (fun _ => 0) (fun _ => 0) 0 0 U (ab_ip (ab_ip g 31 24 0) 31 25 0) := by
    refine ⟨u2, u3, B0, ?_, fun j hj => absurd hj (Nat.not_lt_zero _), ?_, fun p hp => ?_⟩
    · rw [hi_ip, if_neg (by omega), hi_ip, if_pos ⟨rfl, rfl⟩]; rfl
    · rw [hi_ip, if_pos ⟨rfl, rfl⟩]
    · rw [b_0]; rfl
  obtain ⟨n, L, Wh, nl, on, U', V', z, y, r1, r2, r3, r4, r5⟩ := p_twl ht hp hdt.1.2.1 hdt.1.2.2.1 (tls_of ht hd hn1 es1 eg1 he1 hl1) (tls_of ht he hn2 es2 eg2 he2 hl2) k l m 8 0 0 (fun _ => 0) (fun _ => 0) 0 0 U _ (by omega) (by omega) T 1000 (by omega)
  rw [show nI 0 = (0 : Int32) from rfl] at r4 r5
  obtain ⟨t1, t2, t3, t4, t5, t6, t7⟩ := r2
  have hpV := t3.mp hp
  have hw : ∀ q, q < n → ab_i (y_put V' y) 48 q = nI (Wh q) := fun q hq => by rw [y_oth _ _ _ (by decide) (by decide) (by decide) (by decide) (by decide)]; exact (t5 q hq).2.1
  have mt := m_twc (y_put V' y) hpV r1 ((y_24 _ _).trans t4) hw m n 0 (by omega) 1000 (by omega)
  rw [show ab_i (y_put V' y) 45 = y.2.2.2.2.1 from rfl, show nI (fb_ct (fun p => decide (nI (Wh p) = m) && y_std y.2.2.2.2.1 p) 0) = (0 : Int32) from rfl, show nI 0 = (0 : Int32) from rfl] at mt
  have sb := zr_std r1 r3
  have A2 := t2.trans (hm_z U' z)
  have B2 := t3.trans (gm_y V' y)
  have hc' := t2.cp hc
  have cnt0 : m = 0 → f_J6_bitCount_0f7a4 ((z.2.2.2.1 &&& (z.2.2.2.2.1 ^^^ (-1))) &&& on) (z_put U' z) = some (nI (fb_ct (fun p => decide (nI (Wh p) = m) && y_std y.2.2.2.2.1 p) n)) := by
    intro hm
    have hb : ∀ q, q < 32 → bt ((z.2.2.2.1 &&& (z.2.2.2.2.1 ^^^ (-1))) &&& on) q = (decide (q < n) && (decide (nI (Wh q) = m) && y_std y.2.2.2.2.1 q)) := by
      intro q hq
      rw [b_and, sb q hq, t7 q hq]
      by_cases c : q < n
      · rcases nI_01 (t5 q c).2.2.2 with ⟨w1, w2⟩ | ⟨w1, w2⟩
        · rw [w1, w2, hm]; simp [c]
        · rw [w1, w2, hm]; simp [c]
      · simp [c]
    rw [bc_bt (fun q h1 h2 => by rw [hb q h2, decide_eq_false (by omega), Bool.false_and])]
    rw [ct_below r1 (fun q hq => hb q (by omega))]
  have cnt1 : m = 1 → f_J6_bitCount_0f7a4 ((z.2.2.2.1 &&& (z.2.2.2.2.1 ^^^ (-1))) &&& (on ^^^ (-1))) (z_put U' z) = some (nI (fb_ct (fun p => decide (nI (Wh p) = m) && y_std y.2.2.2.2.1 p) n)) := by
    intro hm
    have hb : ∀ q, q < 32 → bt ((z.2.2.2.1 &&& (z.2.2.2.2.1 ^^^ (-1))) &&& (on ^^^ (-1))) q = (decide (q < n) && (decide (nI (Wh q) = m) && y_std y.2.2.2.2.1 q)) := by
      intro q hq
      rw [b_and, sb q hq, b_xor, b_m1 q hq, t7 q hq]
      by_cases c : q < n
      · rcases nI_01 (t5 q c).2.2.2 with ⟨w1, w2⟩ | ⟨w1, w2⟩
        · rw [w1, w2, hm]; simp [c]
        · rw [w1, w2, hm]; simp [c]
      · simp [c]
    rw [bc_bt (fun q h1 h2 => by rw [hb q h2, decide_eq_false (by omega), Bool.false_and])]
    rw [ct_below r1 (fun q hq => hb q (by omega))]
  simp only [hc 0 0 1 rfl, hc 0 1 3 rfl, hc 0 2 5 rfl, hc 0 3 7 rfl, hc 0 4 11 rfl, hc 0 5 12 rfl, hc 0 6 13 rfl, hc 0 7 14 rfl, hc 1 0 2 rfl, hc 3 0 4 rfl, hc 5 0 6 rfl, hc 7 0 8 rfl, hc 7 1 9 rfl, hc 7 2 10 rfl, Option.bind_some, u1, r4, r5, mt, z_r]
  have hc := hc'
  simp only [hc 0 0 1 rfl, hc 0 1 3 rfl, hc 0 2 5 rfl, hc 0 3 7 rfl, hc 0 4 11 rfl, hc 0 5 12 rfl, hc 0 6 13 rfl, hc 0 7 14 rfl, hc 1 0 2 rfl, hc 3 0 4 rfl, hc 5 0 6 rfl, hc 7 0 8 rfl, hc 7 1 9 rfl, hc 7 2 10 rfl, Option.bind_some, f_X10_standing, z_a9, z_a10]
  by_cases m0 : m = 0
  · rw [if_pos m0, cnt0 m0]
    exact ⟨_, _, _, rfl, rfl, A2.meq, B2.ceq, gr_mind H0 A2 B2⟩
  · have m1 : m = 1 := by
      rw [n_eq, show (0 : Int32).toInt = 0 from rfl] at m0
      have b1 := b.1
      have b2 := b.2
      rw [n_le, show (0 : Int32).toInt = 0 from rfl] at b1
      rw [n_le, show (1 : Int32).toInt = 1 from rfl] at b2
      rw [n_eq, show (1 : Int32).toInt = 1 from rfl]
      omega
    rw [if_neg m0, cnt1 m1]
    exact ⟨_, _, _, rfl, rfl, A2.meq, B2.ceq, gr_mind H0 A2 B2⟩
end TWQ
