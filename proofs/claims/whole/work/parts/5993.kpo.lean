section KPO
theorem y_in_undo {N : Nat} {s : Nat → Int32} (ht : tw N s) {n i : Nat} (hi : i < n) {li : Nat → Nat} (hli : li i < N) {how : Int32} {y : yS} (H : y_in n y) (hF : y.2.2.2.2.1 i ≠ 0) : y_in n (y_undo s li i how y) := by
  obtain ⟨so, c, p, u, F, C, A, B⟩ := y
  obtain ⟨h1, ⟨x, hx, ex⟩, h3⟩ := H
  simp only at h1 ex h3 hF
  subst ex
  obtain ⟨k, hk, ek⟩ := t_back_r ht hli
  refine ⟨?_, ?_, ?_⟩
  · intro j q1 q2
    show bt ((so &&& (C i ^^^ (-1))) ||| A i) j = false
    rw [b_or, b_and, h1 j q1 q2, h3 i hi hF j q1 q2]
    rfl
  · show ∃ c, c ≤ 9999 ∧ (if nI x + t_back s (li i) ≤ 9999 then nI x + t_back s (li i) else 9999) = nI c
    rw [ek, nI_add]
    by_cases q : nI (x + k) ≤ 9999
    · rw [if_pos q]
      exact ⟨x + k, (nI_leI (a := x + k) (b := 9999) (by omega) (by decide)).mp q, rfl⟩
    · rw [if_neg q]
      exact ⟨9999, Nat.le_refl _, rfl⟩
  · intro q hq hv
    show b10 (A q)
    have hv : upd F i how q ≠ 0 := hv
    rw [upd_e] at hv
    by_cases e : q = i
    · rw [e]; exact h3 i hi hF
    · rw [if_neg e] at hv; exact h3 q hq hv
theorem y_in_fallp {N : Nat} {s : Nat → Int32} (ht : tw N s) {n : Nat} {li : Nat → Nat} (hli : ∀ j, j < n → li j < N) : ∀ (k : Nat) (m : Bool) (y : yS), k ≤ n → y_in n y → y_in n (y_fallp s li k m y).2
  | 0, _, _, _, H => H
  | k + 1, m, y, hk, H => by
    rw [y_fallp]
    by_cases h : y_hold y.2.2.2.2.1 k = true ∧ t_lack s (li k) y.1 ≠ 0
    · rw [if_pos h]
      apply y_in_fallp ht hli k true _ (by omega)
      apply y_in_undo ht (by omega) (hli k (by omega)) H
      have h1 : y.2.2.2.2.1 k = 2 ∨ y.2.2.2.2.1 k = 3 := by simpa [y_hold] using h.1
      rcases h1 with e | e <;> rw [e] <;> decide
    · rw [if_neg h]
      exact y_in_fallp ht hli k m y (by omega) H
theorem y_in_falls {N : Nat} {s : Nat → Int32} (ht : tw N s) {n : Nat} {li : Nat → Nat} (hli : ∀ j, j < n → li j < N) : ∀ (f : Nat) (y : yS), y_in n y → y_in n (y_falls s li n f y)
  | 0, _, H => H
  | f + 1, y, H => by
    rw [y_falls]
    have h := y_in_fallp ht hli n false y (Nat.le_refl _) H
    by_cases q : (y_fallp s li n false y).1 = true
    · rw [if_pos q]; exact y_in_falls ht hli f _ h
    · rw [if_neg q]; exact h
theorem y_in_odd1 {N : Nat} {s : Nat → Int32} (ht : tw N s) {n i : Nat} (hi : i < n) {li : Nat → Nat} (hli : ∀ j, j < n → li j < N) {y : yS} (H : y_in n y) : y_in n (y_odd1 s li n i y) := by
  unfold y_odd1
  by_cases h1 : y.2.2.2.2.1 i = 1
  · rw [if_pos h1]
    have hne : y.2.2.2.2.1 i ≠ 0 := by rw [h1]; decide
    have hu := y_in_undo (how := 1) ht hi (hli i hi) H hne
    by_cases h2 : s 3 = 1 ∧ y_some (y_heldq s li y.2.2.2.2.1 y.2.2.2.2.2.1 i) (n - (i + 1)) (i + 1) = true
    · rw [if_pos h2]
      refine ⟨H.1, H.2.1, ?_⟩
      intro q hq hv
      show b10 (y.2.2.2.2.2.2.1 q)
      by_cases e : q = i
      · rw [e]; exact H.2.2 i hi hne
      · have hv : upd y.2.2.2.2.1 i 4 q ≠ 0 := hv
        rw [upd_e, if_neg e] at hv
        exact H.2.2 q hq hv
    · rw [if_neg h2]
      by_cases h3 : s 3 = 0
      · rw [if_pos h3]; exact y_in_falls ht hli _ _ hu
      · rw [if_neg h3]; exact hu
  · rw [if_neg h1]; exact H
theorem y_in_odds {N : Nat} {s : Nat → Int32} (ht : tw N s) {n : Nat} {li : Nat → Nat} (hli : ∀ j, j < n → li j < N) : ∀ (k : Nat) (y : yS), k ≤ n → y_in n y → y_in n (y_odds s li n k y)
  | 0, _, _, H => H
  | k + 1, y, hk, H => by
    rw [y_odds]
    exact y_in_odds ht hli k _ (by omega) (y_in_odd1 ht (by omega) hli H)
/-- a whole pair -/
theorem y_in_pair {N : Nat} {s : Nat → Int32} (ht : tw N s) {n : Nat} {li : Nat → Nat} (hli : ∀ j, j < n → li j < N) (nails : Int32) {y : yS} (h1 : b10 y.1) (h2 : ∃ c, c ≤ 9999 ∧ y.2.1 = nI c) : y_in n (y_pair s li n nails y) :=
  y_in_odds ht hli n _ (Nat.le_refl _) (y_in_evens ht nails h1 h2 n hli)
end KPO
