section TAK
theorem c_takl {N : Nat} {s : Nat → Int32} (ht : tw N s) {d n : Nat} (hd : d < 8) (hn : n ≤ 8) (el : Nat → Int32) (li : Nat → Nat) (hel : ∀ j, j < n → el j = nI (li j) ∧ li j < N) : ∀ (c k : Nat) (u : ab_HP), k + c = n → cp u → td u 1 N s → ab_i u (15 + 2 * d) 3 = nI n → (∀ j, j < n → ab_i u (16 + 2 * d) j = el j) → ab_i u 7 5 = nI k → ∀ f, c < f → ∃ w, f_X11_takeList_l36 0 f (some (15 + 2 * d)) (nI k) u = some (0, w) ∧ w.1 = u.1 ∧ ab_i w 7 5 = nI n ∧ (∀ r j, ¬ (r = 7 ∧ j = 5) → ab_i w r j = ab_i u r j) ∧ (∀ r j, r ≠ 8 → ab_r w r j = ab_r u r j) ∧ (∀ r j, ab_l w r j = ab_l u r j) ∧ (∀ j, j < k → ab_r w 8 j = ab_r u 8 j) ∧ ∀ j, k ≤ j → j < n → ∃ r, ab_r w 8 j = some r ∧ r < u.1 ∧ dk u r s (li j)
  | 0, k, u, e, hc, hd1, es, he, h5, f + 1, _ => by
    have e : k = n := by omega
    subst e
    rw [f_X11_takeList_l36]
    simp only [Option.bind_some, ab_let, Option.elim_some, Option.elim_none, es]
    rw [if_pos (nI_le (Nat.le_refl _) (by omega))]
    exact ⟨u, rfl, rfl, h5, fun _ _ _ => rfl, fun _ _ _ => rfl, fun _ _ => rfl, fun _ _ => rfl, fun j h1 h2 => by omega⟩
  | c + 1, k, u, e, hc, hd1, es, he, h5, f + 1, hf => by
    have q : ¬ nI n ≤ nI k := nI_ge (by omega) (by omega)
    have hN := ht.1
    have hx := hel k (by omega)
    obtain ⟨r, q1, q2, q3⟩ := hd1.2 (li k) hx.2
    have e1 : f_X9_deedAt 1 (nI (li k)) u = some (some r) := by
      rw [c_deedAt9 hN (hd1.1.1.trans ht.2.1) (hc 1 0 2 rfl) shp_2 hx.2]
      exact congrArg some q1
    have b2 : ab_in (nI k) 16 = true := in_nI (by omega) (by decide)
    have c2 : (nI k).toNatClampNeg = k := nI_clamp (by omega)
    have h2 : ¬ Int32.ofNat 16 ≤ nI k := nI_ge (b := 16) (by omega) (by decide)
    have i0 : ∀ a b, ¬ (a = 7 ∧ b = 5) → ab_i (ab_ip (ab_rp u 8 k (some r)) 7 5 (nI (k + 1))) a b = ab_i u a b := fun a b g => by rw [hi_ip, if_neg g, hi_rp]
    have r0 : ∀ a b, a ≠ 8 → ab_r (ab_ip (ab_rp u 8 k (some r)) 7 5 (nI (k + 1))) a b = ab_r u a b := fun a b g => by rw [hr_ip, hr_rp, if_neg (by omega)]
    obtain ⟨w, w0, w1, w2, w3, w4, w5, w6, w7⟩ := c_takl ht hd hn el li hel c (k + 1) (ab_ip (ab_rp u 8 k (some r)) 7 5 (nI (k + 1))) (by omega) (cp_same (fun a b g1 g2 g3 g4 g5 g6 => r0 a b g5) hc) (td_same (h := u) hN (Nat.le_refl _) (fun b => i0 1 b (by omega)) (fun b => r0 2 b (by omega)) (fun a g1 g2 b => i0 a b (by omega)) (fun _ _ => rfl) hd1) (by rw [i0 _ _ (by omega)]; exact es) (fun j hj => by rw [i0 _ _ (by omega)]; exact he j hj) (by rw [hi_ip, if_pos ⟨rfl, rfl⟩]) f (by omega)
    rw [f_X11_takeList_l36]
    unfold f_X10_add
    simp only [Option.bind_some, ab_let, Option.elim_some, Option.elim_none, es, q, if_false, c_rd hc hd (show n ≤ 100 by omega) es (show k < n by omega), he k (by omega), hx.1, hc 0 0 1 rfl, hc 0 1 3 rfl, hc 0 2 5 rfl, hc 0 3 7 rfl, hc 0 4 11 rfl, hc 0 5 12 rfl, hc 0 6 13 rfl, hc 0 7 14 rfl, hc 1 0 2 rfl, hc 3 0 4 rfl, hc 5 0 6 rfl, hc 7 0 8 rfl, hc 7 1 9 rfl, hc 7 2 10 rfl, e1, shp_2, shp_4, shp_6, shp_8, shp_9, shp_10, shp_11, shp_12, shp_13, shp_14, shp_32, shp_33, shp_34, shp_35, shp_36, shp_37, shp_38, shp_39, shp_40, shp_41, shp_42, shp_43, shp_44, shp_45, shp_46, shp_47, shp_48, shp_49, h5, h2, b2, c2, if_true, hi_rp, nI_1]
    refine ⟨w, w0, w1, w2, ?_, ?_, ?_, ?_, ?_⟩
    · intro a b g
      rw [w3 a b g, i0 a b g]
    · intro a b g
      rw [w4 a b g, r0 a b g]
    · intro a b
      rw [w5]; rfl
    · intro j hj
      rw [w6 j (by omega), hr_ip, hr_rp, if_neg (by omega)]
    · intro j h1 h3
      by_cases g : j = k
      · subst g
        refine ⟨r, ?_, q2, q3⟩
        rw [w6 j (by omega), hr_ip, hr_rp, if_pos ⟨rfl, rfl⟩]
      · obtain ⟨r', g1, g2, g3⟩ := w7 j (by omega) h3
        exact ⟨r', g1, g2, dk_heap (fun b => (i0 r' b (by have := g3.1; omega)).symm) g3⟩
  | _, _, _, _, _, _, _, _, _, 0, h => absurd h (Nat.not_lt_zero _)
end TAK
