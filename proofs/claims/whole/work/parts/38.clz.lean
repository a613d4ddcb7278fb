section CLZ
/-! a pair in the class's mind: marks coins paid done undone nailed firm fallen, made, lost -/
abbrev zS : Type := Int32 × Int32 × Int32 × Int32 × Int32 × Int32 × Int32 × Int32 × (Nat → Int32) × (Nat → Int32)
def z_put (h : ab_HP) (z : zS) : ab_HP := (h.1, fun r k => if r = 7 then (if k = 6 then z.1 else if k = 7 then z.2.1 else if k = 8 then z.2.2.1 else if k = 9 then z.2.2.2.1 else if k = 10 then z.2.2.2.2.1 else if k = 11 then z.2.2.2.2.2.1 else if k = 12 then z.2.2.2.2.2.2.1 else if k = 13 then z.2.2.2.2.2.2.2.1 else ab_i h 7 k) else if r = 9 then z.2.2.2.2.2.2.2.2.1 k else if r = 10 then z.2.2.2.2.2.2.2.2.2 k else ab_i h r k, h.2.2.1, h.2.2.2)
def z_of (h : ab_HP) : zS := (ab_i h 7 6, ab_i h 7 7, ab_i h 7 8, ab_i h 7 9, ab_i h 7 10, ab_i h 7 11, ab_i h 7 12, ab_i h 7 13, ab_i h 9, ab_i h 10)
theorem z_i (h : ab_HP) (z : zS) (r k : Nat) : ab_i (z_put h z) r k = if r = 7 then (if k = 6 then z.1 else if k = 7 then z.2.1 else if k = 8 then z.2.2.1 else if k = 9 then z.2.2.2.1 else if k = 10 then z.2.2.2.2.1 else if k = 11 then z.2.2.2.2.2.1 else if k = 12 then z.2.2.2.2.2.2.1 else if k = 13 then z.2.2.2.2.2.2.2.1 else ab_i h 7 k) else if r = 9 then z.2.2.2.2.2.2.2.2.1 k else if r = 10 then z.2.2.2.2.2.2.2.2.2 k else ab_i h r k := rfl
theorem z_r (h : ab_HP) (z : zS) (r k : Nat) : ab_r (z_put h z) r k = ab_r h r k := rfl
theorem z_l (h : ab_HP) (z : zS) (r k : Nat) : ab_l (z_put h z) r k = ab_l h r k := rfl
theorem z_1 (h : ab_HP) (z : zS) : (z_put h z).1 = h.1 := rfl
theorem z_a6 (h : ab_HP) (z : zS) : ab_i (z_put h z) 7 6 = z.1 := rfl
theorem z_a7 (h : ab_HP) (z : zS) : ab_i (z_put h z) 7 7 = z.2.1 := rfl
theorem z_a8 (h : ab_HP) (z : zS) : ab_i (z_put h z) 7 8 = z.2.2.1 := rfl
theorem z_a9 (h : ab_HP) (z : zS) : ab_i (z_put h z) 7 9 = z.2.2.2.1 := rfl
theorem z_a10 (h : ab_HP) (z : zS) : ab_i (z_put h z) 7 10 = z.2.2.2.2.1 := rfl
theorem z_a11 (h : ab_HP) (z : zS) : ab_i (z_put h z) 7 11 = z.2.2.2.2.2.1 := rfl
theorem z_a12 (h : ab_HP) (z : zS) : ab_i (z_put h z) 7 12 = z.2.2.2.2.2.2.1 := rfl
theorem z_a13 (h : ab_HP) (z : zS) : ab_i (z_put h z) 7 13 = z.2.2.2.2.2.2.2.1 := rfl
theorem z_b9 (h : ab_HP) (z : zS) (k : Nat) : ab_i (z_put h z) 9 k = z.2.2.2.2.2.2.2.2.1 k := rfl
theorem z_b10 (h : ab_HP) (z : zS) (k : Nat) : ab_i (z_put h z) 10 k = z.2.2.2.2.2.2.2.2.2 k := rfl
theorem z_a4 (h : ab_HP) (z : zS) : ab_i (z_put h z) 7 4 = ab_i h 7 4 := rfl
theorem z_a5 (h : ab_HP) (z : zS) : ab_i (z_put h z) 7 5 = ab_i h 7 5 := rfl
theorem z_t (h : ab_HP) (z : zS) (k : Nat) : ab_i (z_put h z) 1 k = ab_i h 1 k := rfl
theorem z_oth (h : ab_HP) (z : zS) {r : Nat} (k : Nat) (h1 : r ≠ 7) (h2 : r ≠ 9) (h3 : r ≠ 10) : ab_i (z_put h z) r k = ab_i h r k := by
  rw [z_i, if_neg h1, if_neg h2, if_neg h3]
theorem z_d (h : ab_HP) (z : zS) {r : Nat} (k : Nat) (h1 : 50 ≤ r) : ab_i (z_put h z) r k = ab_i h r k := z_oth h z k (by omega) (by omega) (by omega)
theorem z_set {h : ab_HP} {y z : zS} {r k : Nat} {v : Int32} (e : ∀ a b, (if a = r ∧ b = k then v else ab_i (z_put h y) a b) = ab_i (z_put h z) a b) : ab_ip (z_put h y) r k v = z_put h z := by
  refine Prod.ext rfl (Prod.ext ?_ (Prod.ext rfl rfl))
  funext a b
  exact e a b
theorem z_put_of (h : ab_HP) : z_put h (z_of h) = h := by
  refine Prod.ext rfl (Prod.ext ?_ (Prod.ext rfl rfl))
  funext r k
  show ab_i (z_put h (z_of h)) r k = ab_i h r k
  rw [z_i]
  unfold z_of
  by_cases h1 : r = 7
  · subst h1
    rw [if_pos rfl]
    repeat' split
    all_goals first | rfl | (subst_vars; rfl)
  · rw [if_neg h1]
    repeat' split
    all_goals first | rfl | (subst_vars; rfl)
theorem z_put2 (h : ab_HP) (y z : zS) : z_put (z_put h y) z = z_put h z := by
  refine Prod.ext rfl (Prod.ext ?_ (Prod.ext rfl rfl))
  funext r k
  show ab_i (z_put (z_put h y) z) r k = ab_i (z_put h z) r k
  simp only [z_i]
  by_cases h1 : r = 7
  · subst h1
    simp only [if_true]
    by_cases a6 : k = 6
    · simp only [if_pos a6]
    by_cases a7 : k = 7
    · simp only [if_neg a6, if_pos a7]
    by_cases a8 : k = 8
    · simp only [if_neg a6, if_neg a7, if_pos a8]
    by_cases a9 : k = 9
    · simp only [if_neg a6, if_neg a7, if_neg a8, if_pos a9]
    by_cases b0 : k = 10
    · simp only [if_neg a6, if_neg a7, if_neg a8, if_neg a9, if_pos b0]
    by_cases b1 : k = 11
    · simp only [if_neg a6, if_neg a7, if_neg a8, if_neg a9, if_neg b0, if_pos b1]
    by_cases b2 : k = 12
    · simp only [if_neg a6, if_neg a7, if_neg a8, if_neg a9, if_neg b0, if_neg b1, if_pos b2]
    by_cases b3 : k = 13
    · simp only [if_neg a6, if_neg a7, if_neg a8, if_neg a9, if_neg b0, if_neg b1, if_neg b2, if_pos b3]
    simp only [if_neg a6, if_neg a7, if_neg a8, if_neg a9, if_neg b0, if_neg b1, if_neg b2, if_neg b3]
  · simp only [if_neg h1]
    by_cases a6 : r = 9
    · simp only [if_pos a6]
    by_cases a7 : r = 10
    · simp only [if_neg a6, if_pos a7]
    simp only [if_neg a6, if_neg a7]
theorem z_p6 (h : ab_HP) (a b c d e f g i : Int32) (M L : Nat → Int32) (v : Int32) : ab_ip (z_put h (a, b, c, d, e, f, g, i, M, L)) 7 6 v = z_put h (v, b, c, d, e, f, g, i, M, L) := by
  refine z_set fun r k => ?_
  rw [z_i, z_i]
  by_cases h1 : r = 7
  · subst h1
    by_cases h2 : k = 6
    · subst h2; simp
    · simp [h2]
  · simp [h1]
theorem z_p7 (h : ab_HP) (a b c d e f g i : Int32) (M L : Nat → Int32) (v : Int32) : ab_ip (z_put h (a, b, c, d, e, f, g, i, M, L)) 7 7 v = z_put h (a, v, c, d, e, f, g, i, M, L) := by
  refine z_set fun r k => ?_
  rw [z_i, z_i]
  by_cases h1 : r = 7
  · subst h1
    by_cases h2 : k = 7
    · subst h2; simp
    · simp [h2]
  · simp [h1]
theorem z_p8 (h : ab_HP) (a b c d e f g i : Int32) (M L : Nat → Int32) (v : Int32) : ab_ip (z_put h (a, b, c, d, e, f, g, i, M, L)) 7 8 v = z_put h (a, b, v, d, e, f, g, i, M, L) := by
  refine z_set fun r k => ?_
  rw [z_i, z_i]
  by_cases h1 : r = 7
  · subst h1
    by_cases h2 : k = 8
    · subst h2; simp
    · simp [h2]
  · simp [h1]
theorem z_p9 (h : ab_HP) (a b c d e f g i : Int32) (M L : Nat → Int32) (v : Int32) : ab_ip (z_put h (a, b, c, d, e, f, g, i, M, L)) 7 9 v = z_put h (a, b, c, v, e, f, g, i, M, L) := by
  refine z_set fun r k => ?_
  rw [z_i, z_i]
  by_cases h1 : r = 7
  · subst h1
    by_cases h2 : k = 9
    · subst h2; simp
    · simp [h2]
  · simp [h1]
theorem z_p10 (h : ab_HP) (a b c d e f g i : Int32) (M L : Nat → Int32) (v : Int32) : ab_ip (z_put h (a, b, c, d, e, f, g, i, M, L)) 7 10 v = z_put h (a, b, c, d, v, f, g, i, M, L) := by
  refine z_set fun r k => ?_
  rw [z_i, z_i]
  by_cases h1 : r = 7
  · subst h1
    by_cases h2 : k = 10
    · subst h2; simp
    · simp [h2]
  · simp [h1]
theorem z_p11 (h : ab_HP) (a b c d e f g i : Int32) (M L : Nat → Int32) (v : Int32) : ab_ip (z_put h (a, b, c, d, e, f, g, i, M, L)) 7 11 v = z_put h (a, b, c, d, e, v, g, i, M, L) := by
  refine z_set fun r k => ?_
  rw [z_i, z_i]
  by_cases h1 : r = 7
  · subst h1
    by_cases h2 : k = 11
    · subst h2; simp
    · simp [h2]
  · simp [h1]
theorem z_p12 (h : ab_HP) (a b c d e f g i : Int32) (M L : Nat → Int32) (v : Int32) : ab_ip (z_put h (a, b, c, d, e, f, g, i, M, L)) 7 12 v = z_put h (a, b, c, d, e, f, v, i, M, L) := by
  refine z_set fun r k => ?_
  rw [z_i, z_i]
  by_cases h1 : r = 7
  · subst h1
    by_cases h2 : k = 12
    · subst h2; simp
    · simp [h2]
  · simp [h1]
theorem z_p13 (h : ab_HP) (a b c d e f g i : Int32) (M L : Nat → Int32) (v : Int32) : ab_ip (z_put h (a, b, c, d, e, f, g, i, M, L)) 7 13 v = z_put h (a, b, c, d, e, f, g, v, M, L) := by
  refine z_set fun r k => ?_
  rw [z_i, z_i]
  by_cases h1 : r = 7
  · subst h1
    by_cases h2 : k = 13
    · subst h2; simp
    · simp [h2]
  · simp [h1]
theorem z_q9 (h : ab_HP) (a b c d e f g i : Int32) (M L : Nat → Int32) (j : Nat) (v : Int32) : ab_ip (z_put h (a, b, c, d, e, f, g, i, M, L)) 9 j v = z_put h (a, b, c, d, e, f, g, i, upd M j v, L) := by
  refine z_set fun r k => ?_
  rw [z_i, z_i]
  by_cases h1 : r = 9
  · subst h1
    simp [upd_e]
  · simp [h1]
theorem z_q10 (h : ab_HP) (a b c d e f g i : Int32) (M L : Nat → Int32) (j : Nat) (v : Int32) : ab_ip (z_put h (a, b, c, d, e, f, g, i, M, L)) 10 j v = z_put h (a, b, c, d, e, f, g, i, M, upd L j v) := by
  refine z_set fun r k => ?_
  rw [z_i, z_i]
  by_cases h1 : r = 10
  · subst h1
    simp [upd_e]
  · simp [h1]
end CLZ
