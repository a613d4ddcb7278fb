section DUO
/-- the Model's list laid, with what the class's list says of it -/
theorem m_tk {g : ab_HP} (hp : mp g) {d n : Nat} (hd : d < 8) (hn : n ≤ 8) (es : ab_i g 37 d = nI n) {li : Nat → Nat} (hel : ∀ j, j < n → g_el g d j = nI (li j) ∧ li j < 8) (nails : Int32) : ∃ v, f_X12_lays 31 (nI d) nails g = some v ∧ gm g v ∧ mp v ∧ ml v n li ∧ ab_i v 31 25 = nails ∧ y_of v = (ab_i g 32 0, ab_i g 32 1, 0, 0, ab_i v 45, ab_i v 43, ab_i v 44, ab_i v 46) := by
  obtain ⟨v, v0, v1, v2, v3, v4, v5, v6, v7, v8, v9, v10⟩ := m_lays g hp hd hn es nails
  refine ⟨v, v0, ⟨v1, fun r k q => v10 r k (by omega) (by omega), v2⟩, fun k => by rw [v2]; exact hp k, ⟨by omega, v4, fun i hi => ⟨by rw [v3 i hi]; exact (hel i hi).1, (hel i hi).2⟩⟩, v5, ?_⟩
  unfold y_of
  rw [v6, v7, v8, v9]
theorem m_pl {g v : ab_HP} (hp : mp v) (B : gm g v) {n : Nat} {li : Nat → Nat} (hl : ml v n li) {nails m c p u : Int32} (h25 : ab_i v 31 25 = nails) (hy : y_of v = (m, c, p, u, ab_i v 45, ab_i v 43, ab_i v 44, ab_i v 46)) : f_X12_pairOf 31 v = some (y_put v (y_pair (ab_i g 32) li n nails (m, c, p, u, ab_i v 45, ab_i v 43, ab_i v 44, ab_i v 46))) := by
  have := m_pair v hp hl (y_of v)
  rw [y_put_of, hy, h25, B.s32] at this
  exact this
theorem li_lt {g : ab_HP} {d n : Nat} {li : Nat → Nat} (hel : ∀ j, j < n → g_el g d j = nI (li j) ∧ li j < 8) (hl : ∀ N, tw N (ab_i g 32) → p_lr (g_el g d) N n 0 = 0) {N : Nat} (ht : tw N (ab_i g 32)) : ∀ j, j < n → li j < N := by
  intro j hj
  have := p_lr_0 n 0 (hl N ht) j (by omega) (by omega)
  rw [(hel j hj).1, nI_toInt (by have := (hel j hj).2; omega)] at this
  omega
/-- a PAIR by a list, on both sides -/
theorem duo {h g : ab_HP} (H : gr h g) {d n : Nat} (hd : d < 8) (hn : n ≤ 8) (es : ab_i h (15 + 2 * d) 3 = nI n) (eg : ab_i g 37 d = nI n) (he : ∀ k, k < n → ab_i h (16 + 2 * d) k = g_el g d k) (hr : f_X11_listRefusal 0 (nI d) h = some 0) (hl : ∀ N, tw N (ab_i g 32) → p_lr (g_el g d) N n 0 = 0) (nails : Int32) : ∃ w z v y, f_X11_takeList 0 (nI d) h = some (0, w) ∧ f_X10_play 7 nails w = some (z_put w z) ∧ f_X12_lays 31 (nI d) nails g = some v ∧ f_X12_pairOf 31 v = some (y_put v y) ∧ zr n 0 0 z y ∧ y_in n y ∧ hm h w ∧ gm g v ∧ cp w ∧ mp v ∧ ab_i w 7 5 = nI n ∧ ab_i v 31 24 = nI n := by
  obtain ⟨w, li, w0, w1, wc, wl, wt, w4, hel, wi, wr, wll⟩ := c_take H hd hn es he hr hl
  have A := hm_take w1 wi wr wll
  obtain ⟨hc, hp, h50, ⟨N, ht, hd1⟩, hi, hs⟩ := H
  obtain ⟨v, v0, B, vp, vl, v25, vy⟩ := m_tk hp hd hn eg hel nails
  have k2 : ab_i w 1 2 = ab_i g 32 0 := by rw [A.2.1 1 2 (by omega)]; exact hd1.1.2.1
  have k3 : ab_i w 1 3 = ab_i g 32 1 := by rw [A.2.1 1 3 (by omega)]; exact hd1.1.2.2.1
  refine ⟨w, _, v, _, w0, c_play wc wl wt w4 k2 k3 nails, v0, m_pl vp B vl v25 vy, pl_zr (by omega) _ _ _ _ _ _ _ _ _, y_in_pair ht (li_lt hel hl ht) nails (fun j h1 _ => tw_bits ht j h1) ht.2.2.2.1, A, B, wc, vp, wl.2.1, vl.2.1⟩
/-- the refusals of a list, as the calls ask for them -/
theorem tk_ref {h g : ab_HP} (H : gr h g) (i : Int32) {a : Int32} (ha : a ≠ 0) (e : f_X11_listRefusal 0 i h = some a) : f_X11_takeList 0 i h = some (a, h) := by
  unfold f_X11_takeList
  rw [e]
  rcases i_split 8 (by decide) i with ⟨d, hd, rfl⟩ | hn
  · simp only [c_shelf H.1 hd, Option.bind_some, ab_let, Option.elim_some, Option.elim_none, ha, if_false]
  · simp only [c_shelff H.1 hn, Option.bind_some, ab_let, Option.elim_some, Option.elim_none, ha, if_false]
theorem lst3 {h g : ab_HP} (H : gr h g) (i : Int32) : (f_X12_isShelf i g = some 0 ∧ f_X11_listRefusal 0 i h = some (-1) ∧ f_X11_takeList 0 i h = some (-1, h) ∧ f_X12_wrongList 31 i g = some (-1)) ∨ (f_X12_isShelf i g = some 1 ∧ ∃ a, a ≠ 0 ∧ f_X11_listRefusal 0 i h = some a ∧ f_X11_takeList 0 i h = some (a, h) ∧ f_X12_wrongList 31 i g = some a) ∨ (f_X12_isShelf i g = some 1 ∧ f_X11_listRefusal 0 i h = some 0 ∧ f_X12_wrongList 31 i g = some 0 ∧ ∃ d n, d < 8 ∧ i = nI d ∧ n ≤ 8 ∧ ab_i h (15 + 2 * d) 3 = nI n ∧ ab_i g 37 d = nI n ∧ (∀ k, k < n → ab_i h (16 + 2 * d) k = g_el g d k) ∧ ∀ N, tw N (ab_i g 32) → p_lr (g_el g d) N n 0 = 0) := by
  rcases i_split 8 (by decide) i with ⟨d, hd, rfl⟩ | hn
  · have e1 : f_X12_isShelf (nI d) g = some 1 := by
      rw [m_isShelf, decide_eq_true (by rw [nI_toInt (by omega)]; omega), bI_t]
    rcases lst H (nI d) with ⟨a, ha, e2, e3⟩ | ⟨e2, e3, e4⟩
    · exact Or.inr (Or.inl ⟨e1, a, ha, e2, tk_ref H _ ha e2, e3⟩)
    · exact Or.inr (Or.inr ⟨e1, e2, e3, e4⟩)
  · have e1 : f_X12_isShelf i g = some 0 := by
      rw [m_isShelf, decide_eq_false (by omega), bI_f]
    have e3 : f_X12_wrongList 31 i g = some (-1) := by
      unfold f_X12_wrongList
      simp only [m_rowF g _ hn, Option.bind_some, ab_let, Option.elim_some, Option.elim_none, k_m10, if_false]
    have e2 : f_X11_listRefusal 0 i h = some (-1) := by
      unfold f_X11_listRefusal
      simp only [c_shelff H.1 hn, Option.bind_some, ab_let, Option.elim_some, Option.elim_none]
    exact Or.inl ⟨e1, e2, tk_ref H _ (by decide) e2, e3⟩
theorem c_nails (i : Int32) (h : ab_HP) : f_X11_areNails i h = some (bI (decide (0 ≤ i ∧ i ≤ 255))) := by
  unfold f_X11_areNails
  by_cases q : i < 0
  · rw [if_pos q, decide_eq_false, bI_f]
    rintro ⟨a, _⟩
    rw [n_lt] at q
    rw [n_le] at a
    omega
  · rw [if_neg q]
    by_cases q2 : 255 < i
    · rw [if_pos q2, decide_eq_false, bI_f]
      rintro ⟨_, a⟩
      rw [n_lt] at q2
      rw [n_le] at a
      omega
    · rw [if_neg q2, decide_eq_true, bI_t]
      rw [n_lt] at q q2
      rw [n_le, n_le]
      omega
theorem m_nails (i : Int32) (h : ab_HP) : f_X12_areNails i h = some (bI (decide (0 ≤ i ∧ i ≤ 255))) := by
  unfold f_X12_areNails
  rw [is_0_255, bI_if]
  rfl
theorem c_end {w : ab_HP} (hc : cp w) (z : zS) (k : Int32) : f_X11_endYears 0 k (z_put w z) = some (ab_ip (ab_ip (ab_ip (z_put w z) 1 2 z.1) 1 3 z.2.1) 1 7 (ab_i w 1 7 + k)) := by
  unfold f_X11_endYears
  simp only [hr_ip, z_r, hc 0 0 1 rfl, hc 0 1 3 rfl, hc 0 2 5 rfl, hc 0 3 7 rfl, hc 0 4 11 rfl, hc 0 5 12 rfl, hc 0 6 13 rfl, hc 0 7 14 rfl, hc 1 0 2 rfl, hc 3 0 4 rfl, hc 5 0 6 rfl, hc 7 0 8 rfl, hc 7 1 9 rfl, hc 7 2 10 rfl, Option.bind_some, ab_let, Option.elim_some, Option.elim_none, z_a6, hi_ip]
  simp only [Nat.reduceEqDiff, and_false, false_and, if_false, z_a7, z_t]
theorem in_1024 {x : Int32} (h : b10 x) : ∃ a, a < 1024 ∧ x = nI a := by
  obtain ⟨k, h1, h2, _⟩ := bt_nat (n := 10) (by decide) h
  exact ⟨k, h1, h2⟩
end DUO
