section WRI
theorem meq_ip {h : ab_HP} {r k : Nat} {v : Int32} (hr : r < 31 ∨ 50 ≤ r) : meq h (ab_ip h r k v) := fun a h1 h2 b => ⟨by rw [hi_ip, if_neg (by omega)], rfl, rfl⟩
theorem meq_rp {h : ab_HP} {r k : Nat} {v : Option Nat} (hr : r < 31 ∨ 50 ≤ r) : meq h (ab_rp h r k v) := fun a h1 h2 b => ⟨rfl, by rw [hr_rp, if_neg (by omega)], rfl⟩
theorem ceq_ip {g : ab_HP} {r k : Nat} {v : Int32} (h1 : 31 ≤ r) (h2 : r < 50) : ceq g (ab_ip g r k v) := ⟨rfl, fun a ha b => ⟨by rw [hi_ip, if_neg (by omega)], rfl⟩⟩
theorem t_g_cong {s s' : Nat → Int32} (h : ∀ k, 7 ≤ k → s' k = s k) (d k : Nat) : t_g s' d k = t_g s d k := h _ (by omega)
theorem dk_town {h : ab_HP} {r : Nat} {s s' : Nat → Int32} (e : ∀ k, 7 ≤ k → s' k = s k) {d : Nat} (H : dk h r s d) : dk h r s' d := by
  have e2 := t_g_cong e d
  unfold dk t_cost t_back t_kept at H ⊢
  simp only [e2]
  exact H
theorem dk_heap {h h' : ab_HP} {r : Nat} {s : Nat → Int32} (e : ∀ k, ab_i h' r k = ab_i h r k) {d : Nat} (H : dk h r s d) : dk h' r s d := by
  unfold dk at H ⊢
  simp only [e]
  exact H
/-- what of the town now may change, and all that lies in mind -/
theorem gr_town {h g h1 g1 : ab_HP} (H : gr h g) (e1 : h.1 ≤ h1.1) (er : ∀ r k, r < 31 → r ≠ 6 → r ≠ 8 → ¬ (r = 7 ∧ k = 3) → ab_r h1 r k = ab_r h r k) (ei : ∀ r k, (r = 3 ∨ 15 ≤ r) → r < 31 ∨ (50 ≤ r ∧ r < h.1) → ab_i h1 r k = ab_i h r k) (e09 : ab_i h1 0 9 = ab_i h 0 9) (gm : mp g1) (g9 : ab_i g1 31 9 = ab_i g 31 9) (g33 : ∀ k, ab_i g1 33 k = ab_i g 33 k) (g35 : ∀ r, 35 ≤ r → r ≤ 40 → ∀ k, ab_i g1 r k = ab_i g r k) (gd : ∀ k, k = 6 ∨ 7 ≤ k → ab_i g1 32 k = ab_i g 32 k) (n1 : ab_i h1 1 1 = ab_i h 1 1) (n2 : ab_i h1 1 2 = ab_i g1 32 0) (n3 : ab_i h1 1 3 = ab_i g1 32 1) (n4 : ab_i h1 1 4 = ab_i g1 32 3) (n5 : ab_i h1 1 5 = ab_i g1 32 4) (n6 : ab_i h1 1 6 = ab_i g1 32 5) (n7 : ab_i h1 1 7 = ab_i g1 32 2) (r0 : ∃ a, a < 1024 ∧ ab_i g1 32 0 = nI a) (r1 : ∃ c, c ≤ 9999 ∧ ab_i g1 32 1 = nI c) (r3 : ∃ l, l < 3 ∧ ab_i g1 32 3 = nI l) (r4 : ∃ a, a < 100 ∧ ab_i g1 32 4 = nI a) : gr h1 g1 := by
  obtain ⟨hc, hp, h50, ⟨N, ht, hd⟩, hi, hs⟩ := H
  refine ⟨?_, gm, by omega, ⟨N, ?_, ?_⟩, ?_, ?_⟩
  · intro r k v hv
    have q : r < 31 ∧ r ≠ 6 ∧ r ≠ 8 ∧ ¬ (r = 7 ∧ k = 3) := by
      refine ⟨?_, ?_, ?_, ?_⟩
      · rcases Nat.lt_or_ge r 31 with q | q
        · exact q
        · exfalso
          unfold cp_tab at hv
          rw [if_neg (by omega), if_neg (by omega), if_neg (by omega), if_neg (by omega), if_neg (by omega), if_neg (by omega), if_neg (by omega)] at hv
          cases hv
      · rintro rfl
        unfold cp_tab at hv
        rw [if_neg (by omega), if_neg (by omega), if_neg (by omega), if_neg (by omega), if_neg (by omega), if_neg (by omega), if_neg (by omega)] at hv
        cases hv
      · rintro rfl
        unfold cp_tab at hv
        rw [if_neg (by omega), if_neg (by omega), if_neg (by omega), if_neg (by omega), if_neg (by omega), if_neg (by omega), if_neg (by omega)] at hv
        cases hv
      · rintro ⟨rfl, rfl⟩
        cases hv
    rw [er r k q.1 q.2.1 q.2.2.1 q.2.2.2]
    exact hc r k v hv
  · obtain ⟨a1, a2, a3, a4, a5, a6, a7⟩ := ht
    refine ⟨a1, by rw [gd 6 (Or.inl rfl)]; exact a2, r0, r1, r3, r4, ?_⟩
    intro d hdN
    simp only [t_g_cong (fun k hk => gd k (Or.inr hk))]
    exact a7 d hdN
  · refine ⟨⟨by rw [n1, gd 6 (Or.inl rfl)]; exact hd.1.1, n2, n3, n4, n5, n6, n7⟩, ?_⟩
    intro d hdN
    obtain ⟨r, q1, q2, q3⟩ := hd.2 d hdN
    exact ⟨r, by rw [er 2 d (by decide) (by decide) (by decide) (by omega)]; exact q1, by omega, dk_heap (fun k => ei r k (Or.inr (by have := q3.1; omega)) (Or.inr ⟨q3.1, q2⟩)) (dk_town (fun k hk => gd k (Or.inr hk)) q3)⟩
  · rw [e09, g9]
    refine ⟨hi.1, ?_⟩
    rcases hi.2 with q | ⟨q, M, b1, b2⟩
    · exact Or.inl q
    · have e33 : ab_i g1 33 = ab_i g 33 := funext g33
      rw [e33]
      refine Or.inr ⟨q, M, b1, ?_, ?_⟩
      · simp only [ei 3 _ (Or.inl rfl) (Or.inl (by decide))]
        exact b2.1
      · intro d hdN
        obtain ⟨r, q1, q2, q3⟩ := b2.2 d hdN
        exact ⟨r, by rw [er 4 d (by decide) (by decide) (by decide) (by omega)]; exact q1, by omega, dk_heap (fun k => ei r k (Or.inr (by have := q3.1; omega)) (Or.inr ⟨q3.1, q2⟩)) q3⟩
  · intro d hd8
    have F := hs d hd8
    have c1 : ∀ k, ab_i h1 (15 + 2 * d) k = ab_i h (15 + 2 * d) k := fun k => ei _ k (Or.inr (by omega)) (Or.inl (by omega))
    have c2 : ∀ k, ab_i h1 (16 + 2 * d) k = ab_i h (16 + 2 * d) k := fun k => ei _ k (Or.inr (by omega)) (Or.inl (by omega))
    have c3 : ab_r h1 (15 + 2 * d) 1 = ab_r h (15 + 2 * d) 1 := er _ 1 (by omega) (by omega) (by omega) (by omega)
    unfold shd at F ⊢
    simp only [g35 35 (by omega) (by omega), g35 36 (by omega) (by omega), g35 37 (by omega) (by omega), g35 38 (by omega) (by omega), g35 39 (by omega) (by omega), g35 40 (by omega) (by omega), c1, c2, c3]
    rcases F with F | ⟨F1, F2, r, F3, F4, F5, F6, F7⟩ | F
    · exact Or.inl F
    · refine Or.inr (Or.inl ⟨F1, F2, r, F3, F4, by omega, ?_, ?_⟩)
      · rw [ei r 11 (Or.inr (by omega)) (Or.inr ⟨F4, F5⟩)]; exact F6
      · rw [ei r 13 (Or.inr (by omega)) (Or.inr ⟨F4, F5⟩), ei r 12 (Or.inr (by omega)) (Or.inr ⟨F4, F5⟩)]; exact F7
    · exact Or.inr (Or.inr F)
end WRI
