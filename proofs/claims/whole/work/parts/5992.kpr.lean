section KPR
/-- what a pair keeps: MARKS within ten, COINS within 0 .. 9999 -/
def y_in (i : Nat) (y : yS) : Prop := b10 y.1 ∧ (∃ c, c ≤ 9999 ∧ y.2.1 = nI c) ∧ ∀ p, p < i → y.2.2.2.2.1 p ≠ 0 → b10 (y.2.2.2.2.2.2.1 p)
theorem coin_sub {c x : Nat} (h : x ≤ c) (hc : c ≤ 9999) : nI c - nI x = nI (c - x) := nx_sub h
theorem y_in_even {N : Nat} {s : Nat → Int32} (ht : tw N s) {i : Nat} {li : Nat → Nat} (hli : li i < N) (nails : Int32) {y : yS} (H : y_in i y) : y_in (i + 1) (y_even1 s li nails i y) := by
  obtain ⟨so, c, p, u, F, C, A, B⟩ := y
  obtain ⟨h1, ⟨x, hx, ex⟩, h3⟩ := H
  simp only at h1 ex h3
  subst ex
  have hA : b10 (so &&& (t_marks s (li i) so ^^^ so)) := fun j q1 q2 => by rw [b_and, h1 j q1 q2, Bool.false_and]
  have keep : ∀ v w, (v ≠ 0 → b10 w) → ∀ q, q < i + 1 → upd F i v q ≠ 0 → b10 (upd A i w q) := by
    intro v w hw q hq hv
    rw [upd_e] at hv ⊢
    by_cases e : q = i
    · rw [if_pos e] at hv ⊢; exact hw hv
    · rw [if_neg e] at hv ⊢; exact h3 q (by omega) hv
  rw [y_even1]
  by_cases hm : t_mayb s (li i) so (nI x) = true
  · rw [if_pos hm]
    obtain ⟨k, hk, ek⟩ := t_cost_r ht hli
    have hle : k ≤ x := by
      unfold t_mayb at hm
      rw [Bool.and_eq_true, decide_eq_true_eq, decide_eq_true_eq, ek] at hm
      exact (nI_leI (by omega) (by omega)).mp hm.2
    rw [ek, nx_sub hle]
    by_cases hq : y_nb nails i = true ∧ t_price s i ≤ nI (x - k)
    · rw [if_pos hq]
      have hp0 := t_price_0 s i
      obtain ⟨pr, hpr, epr⟩ : ∃ pr, pr < x - k + 1 ∧ t_price s i = nI pr := n_in (by rw [n_le, l_int0] at hp0; exact hp0) (by have := hq.2; rw [n_le, nI_toInt (by omega)] at this; omega)
      rw [epr, nx_sub (by omega)]
      exact ⟨marks_b10 ht hli h1, ⟨x - k - pr, by omega, rfl⟩, keep 2 _ (fun _ => hA)⟩
    · rw [if_neg hq]
      exact ⟨marks_b10 ht hli h1, ⟨x - k, by omega, rfl⟩, keep _ _ (fun _ => hA)⟩
  · rw [if_neg hm]
    refine ⟨h1, ⟨x, hx, rfl⟩, ?_⟩
    intro q hq hv
    have hv : upd F i 0 q ≠ 0 := hv
    rw [upd_e] at hv
    by_cases e : q = i
    · rw [if_pos e] at hv; exact absurd rfl hv
    · rw [if_neg e] at hv; exact h3 q (by omega) hv
theorem y_in_evens {N : Nat} {s : Nat → Int32} (ht : tw N s) {li : Nat → Nat} (nails : Int32) {y : yS} (h1 : b10 y.1) (h2 : ∃ c, c ≤ 9999 ∧ y.2.1 = nI c) : ∀ i, (∀ j, j < i → li j < N) → y_in i (y_evens s li nails i y)
  | 0, _ => ⟨h1, h2, fun p hp => absurd hp (Nat.not_lt_zero _)⟩
  | i + 1, h => y_in_even ht (h i (by omega)) nails (y_in_evens ht nails h1 h2 i (fun j hj => h j (by omega)))
end KPR
