section RNG
theorem nI_half {x : Nat} (h : x < 1000) : nI x / 2 = nI (x / 2) := by
  have : ∀ x, x < 1000 → nI x / 2 = nI (x / 2) := by decide +kernel
  exact this x h
theorem t_cost_r {N : Nat} {s : Nat → Int32} (ht : tw N s) {d : Nat} (hd : d < N) : ∃ x, x < 200 ∧ t_cost s d = nI x := by
  obtain ⟨k, w, m, p, f, hk, hw, hm, hp, hf, e0, e1, e2, e3, e4⟩ := ht.2.2.2.2.2.2 d hd
  unfold t_cost dc_cost
  rw [e3, e4]
  split
  · exact ⟨p + f, by omega, nI_add p f⟩
  · split
    · exact ⟨p / 2, by omega, nI_half (by omega)⟩
    · split
      · exact ⟨0, by omega, rfl⟩
      · split
        · exact ⟨p + f + 5, by omega, by rw [nI_add, n_lit 5, nI_add]⟩
        · split
          · exact ⟨0, by omega, rfl⟩
          · exact ⟨p, by omega, rfl⟩
theorem t_back_r {N : Nat} {s : Nat → Int32} (ht : tw N s) {d : Nat} (hd : d < N) : ∃ x, x < 200 ∧ t_back s d = nI x := by
  obtain ⟨x, hx, ex⟩ := t_cost_r ht hd
  obtain ⟨k, w, m, p, f, hk, hw, hm, hp, hf, e0, e1, e2, e3, e4⟩ := ht.2.2.2.2.2.2 d hd
  unfold t_back dc_back
  have ex' : dc_cost (t_g s d 0) (t_g s d 3) (t_g s d 4) = nI x := ex
  rw [ex', e4]
  split
  · exact ⟨x / 2, by omega, nI_half (by omega)⟩
  · split
    · exact ⟨0, by omega, rfl⟩
    · split
      · exact ⟨f, by omega, rfl⟩
      · split
        · exact ⟨0, by omega, rfl⟩
        · split
          · exact ⟨x / 2, by omega, nI_half (by omega)⟩
          · split
            · exact ⟨0, by omega, rfl⟩
            · exact ⟨x, hx, rfl⟩
theorem t_price_0 (s : Nat → Int32) (i : Nat) : 0 ≤ t_price s i := by
  unfold t_price
  split
  · assumption
  · decide
end RNG
