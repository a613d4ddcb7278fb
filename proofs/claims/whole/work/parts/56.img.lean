section IMG
/-- deeds laid anew, one after the other -/
def bq (t : Nat) (v : Nat → Option Nat) : Nat → Nat → ab_HP → ab_HP
  | 0, _, h => h
  | c + 1, i, h => bq t v c (i + 1) (ab_rp h (t + 1) i (v i))
theorem bq_r (t : Nat) (v : Nat → Option Nat) : ∀ (c i : Nat) (h : ab_HP) (r k : Nat), ab_r (bq t v c i h) r k = if r = t + 1 ∧ i ≤ k ∧ k < i + c then v k else ab_r h r k
  | 0, i, h, r, k => by rw [bq, if_neg (by omega)]
  | c + 1, i, h, r, k => by
    rw [bq, bq_r t v c (i + 1) _ r k, hr_rp]
    by_cases q : r = t + 1 ∧ k = i
    · rw [if_neg (by omega), if_pos q, if_pos (by omega), q.2]
    · rw [if_neg q]
      by_cases q2 : r = t + 1 ∧ i + 1 ≤ k ∧ k < i + 1 + c
      · rw [if_pos q2, if_pos (by omega)]
      · rw [if_neg q2, if_neg (by omega)]
theorem bq_i (t : Nat) (v : Nat → Option Nat) : ∀ (c i : Nat) (h : ab_HP) (r k : Nat), ab_i (bq t v c i h) r k = ab_i h r k
  | 0, _, _, _, _ => rfl
  | c + 1, i, h, r, k => by rw [bq, bq_i t v c (i + 1) _ r k, hi_rp]
theorem bq_l (t : Nat) (v : Nat → Option Nat) : ∀ (c i : Nat) (h : ab_HP) (r k : Nat), ab_l (bq t v c i h) r k = ab_l h r k
  | 0, _, _, _, _ => rfl
  | c + 1, i, h, r, k => by rw [bq, bq_l t v c (i + 1) _ r k, hl_rp]
theorem bq_1 (t : Nat) (v : Nat → Option Nat) : ∀ (c i : Nat) (h : ab_HP), (bq t v c i h).1 = h.1
  | 0, _, _ => rfl
  | c + 1, i, h => by rw [bq, bq_1 t v c (i + 1) _, h1_rp]
def bcF (t o : Nat) (h : ab_HP) : ab_HP := ab_ip (ab_ip (ab_ip (ab_ip (ab_ip (ab_ip (ab_ip h t 1 (ab_i h o 1)) t 2 (ab_i h o 2)) t 3 (ab_i h o 3)) t 4 (ab_i h o 4)) t 5 (ab_i h o 5)) t 6 (ab_i h o 6)) t 7 (ab_i h o 7)
theorem bcF_i (t o : Nat) (h : ab_HP) (r k : Nat) : ab_i (bcF t o h) r k = if r = t ∧ 1 ≤ k ∧ k ≤ 7 then ab_i h o k else ab_i h r k := by
  unfold bcF
  simp only [hi_ip]
  by_cases q : r = t
  · by_cases q7 : k = 7
    · rw [if_pos ⟨q, q7⟩, if_pos (by omega), q7]
    rw [if_neg (by omega)]
    by_cases q6 : k = 6
    · rw [if_pos ⟨q, q6⟩, if_pos (by omega), q6]
    rw [if_neg (by omega)]
    by_cases q5 : k = 5
    · rw [if_pos ⟨q, q5⟩, if_pos (by omega), q5]
    rw [if_neg (by omega)]
    by_cases q4 : k = 4
    · rw [if_pos ⟨q, q4⟩, if_pos (by omega), q4]
    rw [if_neg (by omega)]
    by_cases q3 : k = 3
    · rw [if_pos ⟨q, q3⟩, if_pos (by omega), q3]
    rw [if_neg (by omega)]
    by_cases q2 : k = 2
    · rw [if_pos ⟨q, q2⟩, if_pos (by omega), q2]
    rw [if_neg (by omega)]
    by_cases q1 : k = 1
    · rw [if_pos ⟨q, q1⟩, if_pos (by omega), q1]
    rw [if_neg (by omega), if_neg (by omega)]
  · rw [if_neg (fun e => q e.1), if_neg (fun e => q e.1), if_neg (fun e => q e.1), if_neg (fun e => q e.1), if_neg (fun e => q e.1), if_neg (fun e => q e.1), if_neg (fun e => q e.1), if_neg (fun e => q e.1)]
theorem c_bec {t o N : Nat} (ho : o ≠ t) (ho2 : o + 1 ≠ t + 1) (ho3 : o ≠ t + 1) (hN : N ≤ 8) (sht : ab_shp (t + 1) = (8, 8)) (sho : ab_shp (o + 1) = (8, 8)) (v : Nat → Option Nat) : ∀ (c i : Nat) (h : ab_HP), ab_r h t 0 = some (t + 1) → ab_r h o 0 = some (o + 1) → ab_i h o 1 = nI N → (∀ k, v k = if k < N then ab_r h (o + 1) k else none) → i + c = 8 → ∀ f, c < f → f_X9_become_l2 t f (some o) (nI i) h = some (bcF t o (bq t v c i h))
  | 0, i, h, ht0, ho0, h1, hv, e, f + 1, _ => by
    have e : i = 8 := by omega
    subst e
    rw [f_X9_become_l2]
    simp only [ht0, sht, Option.bind_some, ab_let, Option.elim_some, Option.elim_none]
    rw [if_pos (show Int32.ofNat 8 ≤ nI 8 by decide)]
    simp only [hi_ip, ho, false_and, if_false]
    rfl
  | c + 1, i, h, ht0, ho0, h1, hv, e, f + 1, hf => by
    have q8 : ab_in (nI i) 8 = true := in_nI (by omega) (by decide)
    have qc : (nI i).toNatClampNeg = i := nI_clamp (by omega)
    have h2 : ¬ Int32.ofNat 8 ≤ nI i := nI_ge (b := 8) (by omega) (by decide)
    have hdA : f_X9_deedAt o (nI i) h = some (v i) := by
      rw [hv i]
      by_cases q : i < N
      · rw [c_deedAt9 hN h1 ho0 sho q, if_pos q]
      · rw [c_deedAt9f hN h1 (by rw [nI_toInt (by omega)]; omega), if_neg q]
    have r0 : ∀ a b, a ≠ t + 1 → ab_r (ab_rp h (t + 1) i (v i)) a b = ab_r h a b := fun a b q => by rw [hr_rp, if_neg (by omega)]
    rw [f_X9_become_l2]
    simp only [ht0, sht, Option.bind_some, ab_let, Option.elim_some, Option.elim_none, h2, if_false, hdA, q8, if_true, qc, nI_1]
    rw [c_bec ho ho2 ho3 hN sht sho v c (i + 1) (ab_rp h (t + 1) i (v i)) (by rw [r0 t 0 (by omega)]; exact ht0) (by rw [r0 o 0 ho3]; exact ho0) (by rw [hi_rp]; exact h1) (fun k => by rw [hv k, r0 (o + 1) k ho2]) (by omega) f (by omega)]
    rfl
  | _, _, _, _, _, _, _, _, 0, h => absurd h (Nat.not_lt_zero _)
end IMG
