section STZ
/-- those that stand, by the class's bits -/
theorem zr_std {n : Nat} (hn : n ≤ 16) {u0 : Int32} {z : zS} {y : yS} (H : zr n 0 u0 z y) : ∀ j, j < 32 → bt (z.2.2.2.1 &&& (z.2.2.2.2.1 ^^^ (-1))) j = (decide (j < n) && y_std y.2.2.2.2.1 j) := by
  intro j hj
  have hb := H.2.1 j hj
  rw [b_and, b_xor, b_m1 j hj, hb.1, hb.2.2.1]
  by_cases q : j < n
  · unfold y_std zf
    rcases (H.2.2 j q).1 with e | e | e | e | e | e <;> simp [e, q]
  · simp [q]
theorem ct_below {p q : Nat → Bool} {n m : Nat} (hnm : n ≤ m) (h : ∀ j, j < m → p j = (decide (j < n) && q j)) : fb_ct p m = fb_ct q n := by
  have e := fb_ct_split p n (m - n)
  rw [show n + (m - n) = m by omega] at e
  rw [e]
  have z : fb_ct (fun k => p (n + k)) (m - n) = 0 := by
    rw [fb_ct_zero]
    intro k hk
    show p (n + k) = false
    rw [h (n + k) (by omega), decide_eq_false (by omega), Bool.false_and]
  rw [z, Nat.add_zero]
  apply fb_ct_cong
  intro k hk
  rw [h k (by omega), decide_eq_true hk, Bool.true_and]
theorem c_std {n : Nat} (hn : n ≤ 16) {u0 : Int32} {z : zS} {y : yS} (H : zr n 0 u0 z y) (X : ab_HP) : f_J6_bitCount_0f7a4 (z.2.2.2.1 &&& (z.2.2.2.2.1 ^^^ (-1))) X = some (nI (fb_ct (y_std y.2.2.2.2.1) n)) := by
  have h := zr_std hn H
  rw [bc_bt (fun j h1 h2 => by rw [h j h2, decide_eq_false (by omega), Bool.false_and])]
  rw [ct_below hn (fun j hj => h j (by omega))]
end STZ
