section TKL
/-- how the two stand once the list has been taken on both sides, before a year has gone by -/
theorem c_take {h g : ab_HP} (H : gr h g) {d n : Nat} (hd : d < 8) (hn : n ≤ 8) (es : ab_i h (15 + 2 * d) 3 = nI n) (he : ∀ k, k < n → ab_i h (16 + 2 * d) k = g_el g d k) (hr : f_X11_listRefusal 0 (nI d) h = some 0) (hl : ∀ N, tw N (ab_i g 32) → p_lr (g_el g d) N n 0 = 0) : ∃ w li, f_X11_takeList 0 (nI d) h = some (0, w) ∧ w.1 = h.1 ∧ cp w ∧ cl w n li (ab_i g 32) ∧ ct w (ab_i g 32) ∧ ab_i w 7 4 = ab_i g 32 3 ∧ (∀ j, j < n → g_el g d j = nI (li j) ∧ li j < 8) ∧ (∀ r j, ¬ (r = 7 ∧ (j = 4 ∨ j = 5)) → ab_i w r j = ab_i h r j) ∧ (∀ r j, r ≠ 8 → ¬ (r = 7 ∧ j = 3) → ab_r w r j = ab_r h r j) ∧ ∀ r j, ab_l w r j = ab_l h r j := by
  obtain ⟨hc, hp, h50, ⟨N, ht, hd1⟩, hi, hs⟩ := H
  have hN := ht.1
  have hin := p_lr_0 n 0 (hl N ht)
  have hel : ∀ j, j < n → g_el g d j = nI ((g_el g d j).toNatClampNeg) ∧ (g_el g d j).toNatClampNeg < N := by
    intro j hj
    obtain ⟨x, hx, ex⟩ := n_in (hin j (by omega) (by omega)).1 (hin j (by omega) (by omega)).2
    rw [ex, nI_clamp (by omega)]
    exact ⟨rfl, hx⟩
  have u0 : ∀ a b, ¬ (a = 7 ∧ (b = 4 ∨ b = 5)) → ab_i (ab_ip (ab_ip (ab_rp h 7 3 (some 1)) 7 4 (ab_i h 1 4)) 7 5 0) a b = ab_i h a b := fun a b q => by rw [hi_ip, if_neg (by omega), hi_ip, if_neg (by omega), hi_rp]
  have v0 : ∀ a b, ¬ (a = 7 ∧ b = 3) → ab_r (ab_ip (ab_ip (ab_rp h 7 3 (some 1)) 7 4 (ab_i h 1 4)) 7 5 0) a b = ab_r h a b := fun a b q => by rw [hr_ip, hr_ip, hr_rp, if_neg q]
  obtain ⟨w, w0, w1, w2, w3, w4, w5, w6, w7⟩ := c_takl ht hd hn (g_el g d) (fun j => (g_el g d j).toNatClampNeg) hel n 0 (ab_ip (ab_ip (ab_rp h 7 3 (some 1)) 7 4 (ab_i h 1 4)) 7 5 0) (by omega) (cp_same (fun a b g1 g2 g3 g4 g5 g6 => v0 a b g6) hc) (td_same (h := h) hN (Nat.le_refl _) (fun b => u0 1 b (by omega)) (fun b => v0 2 b (by omega)) (fun a g1 g2 b => u0 a b (by omega)) (fun _ _ => rfl) hd1) (by rw [u0 _ _ (by omega)]; exact es) (fun j hj => by rw [u0 _ _ (by omega)]; exact he j hj) (by rw [hi_ip, if_pos ⟨rfl, rfl⟩]; rfl) 1000 (by omega)
  rw [show nI 0 = 0 from rfl] at w0
  refine ⟨w, fun j => (g_el g d j).toNatClampNeg, ?_, w1, ?_, ⟨by omega, w2, ?_⟩, ⟨?_, ?_, ?_⟩, ?_, ?_, ?_, ?_, ?_⟩
  · unfold f_X11_takeList f_X10_open
    simp only [hr, c_shelf hc hd, Option.bind_some, ab_let, Option.elim_some, Option.elim_none, if_true, hc 0 0 1 rfl, hc 0 1 3 rfl, hc 0 2 5 rfl, hc 0 3 7 rfl, hc 0 4 11 rfl, hc 0 5 12 rfl, hc 0 6 13 rfl, hc 0 7 14 rfl, hc 1 0 2 rfl, hc 3 0 4 rfl, hc 5 0 6 rfl, hc 7 0 8 rfl, hc 7 1 9 rfl, hc 7 2 10 rfl, hi_rp]
    exact w0
  · refine cp_same (h := h) (fun a b g1 g2 g3 g4 g5 g6 => ?_) hc
    rw [w4 a b g5, v0 a b g6]
  · intro j hj
    obtain ⟨r, g1, g2, g3⟩ := w7 j (by omega) hj
    refine ⟨Nat.lt_of_lt_of_le (hel j hj).2 hN, r, g1, dk_heap (fun b => ?_) g3⟩
    rw [w3 r b (by have := g3.1; omega)]
  · rw [w4 7 3 (by omega), hr_ip, hr_ip, hr_rp, if_pos ⟨rfl, rfl⟩]
  · rw [w3 1 5 (by omega), u0 1 5 (by omega)]; exact hd1.1.2.2.2.2.1
  · rw [w3 1 6 (by omega), u0 1 6 (by omega)]; exact hd1.1.2.2.2.2.2.1
  · rw [w3 7 4 (by omega), hi_ip, if_neg (by omega), hi_ip, if_pos ⟨rfl, rfl⟩]; exact hd1.1.2.2.2.1
  · intro j hj
    exact ⟨(hel j hj).1, Nat.lt_of_lt_of_le (hel j hj).2 hN⟩
  · intro a b q
    rw [w3 a b (by omega), u0 a b q]
  · intro a b q q2
    rw [w4 a b q, v0 a b q2]
  · intro a b
    rw [w5]; rfl
end TKL
