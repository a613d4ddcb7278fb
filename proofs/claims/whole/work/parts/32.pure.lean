section PUR
/-! the reference, as plain functions: a town is s : Nat → Int32 (the row s of the Model) -/
def dc_cost (k p f : Int32) : Int32 := if k = 1 then p + f else if k = 3 then p / 2 else if k = 4 then 0 else if k = 5 then p + f + 5 else if k = 7 then 0 else p
def dc_back (k p f : Int32) : Int32 := if k = 1 then dc_cost k p f / 2 else if k = 2 then 0 else if k = 3 then f else if k = 4 then 0 else if k = 5 then dc_cost k p f / 2 else if k = 7 then 0 else dc_cost k p f
def dc_kept (k f : Int32) : Int32 := if k = 5 then (if f = 9 then 1 else 0) else if k = 4 then (if f < 5 then 0 else 1) else if k = 7 then (if f < 5 then 0 else 1) else 0
def dc_bit (m : Int32) : Int32 := (1 : Int32) <<< (m &&& 31)
def dc_marks (k m f so : Int32) : Int32 := if k = 6 then so &&& (dc_bit m ^^^ (-1)) else if k = 7 then (so ||| dc_bit m) ||| dc_bit f else so ||| dc_bit m
def t_g (s : Nat → Int32) (d k : Nat) : Int32 := s (7 + 5 * d + k)
def t_cost (s : Nat → Int32) (d : Nat) : Int32 := dc_cost (t_g s d 0) (t_g s d 3) (t_g s d 4)
def t_back (s : Nat → Int32) (d : Nat) : Int32 := dc_back (t_g s d 0) (t_g s d 3) (t_g s d 4)
def t_kept (s : Nat → Int32) (d : Nat) : Int32 := dc_kept (t_g s d 0) (t_g s d 4)
def t_marks (s : Nat → Int32) (d : Nat) (so : Int32) : Int32 := dc_marks (t_g s d 0) (t_g s d 2) (t_g s d 4) so
def t_lack (s : Nat → Int32) (d : Nat) (so : Int32) : Int32 := t_g s d 1 &&& (so ^^^ (-1))
def t_may (s : Nat → Int32) (d : Nat) (so c : Int32) : Prop := t_lack s d so = 0 ∧ t_cost s d ≤ c
def t_price (s : Nat → Int32) (i : Nat) : Int32 := if 0 ≤ s 4 + nI i * s 5 then s 4 + nI i * s 5 else 0
/-- a pair in mind: so, coins, paid, undone, fate, changed, ahead, behindPlace -/
abbrev yS : Type := Int32 × Int32 × Int32 × Int32 × (Nat → Int32) × (Nat → Int32) × (Nat → Int32) × (Nat → Int32)
def y_put (g : ab_HP) (y : yS) : ab_HP := (g.1, fun r k => if r = 31 then (if k = 26 then y.1 else if k = 27 then y.2.1 else if k = 28 then y.2.2.1 else if k = 29 then y.2.2.2.1 else ab_i g 31 k) else if r = 45 then y.2.2.2.2.1 k else if r = 43 then y.2.2.2.2.2.1 k else if r = 44 then y.2.2.2.2.2.2.1 k else if r = 46 then y.2.2.2.2.2.2.2 k else ab_i g r k, g.2.2.1, g.2.2.2)
def y_of (g : ab_HP) : yS := (ab_i g 31 26, ab_i g 31 27, ab_i g 31 28, ab_i g 31 29, ab_i g 45, ab_i g 43, ab_i g 44, ab_i g 46)
theorem y_put_of (g : ab_HP) : y_put g (y_of g) = g := by
  unfold y_put y_of
  refine Prod.ext rfl (Prod.ext ?_ (Prod.ext rfl rfl))
  funext r k
  show (if r = 31 then (if k = 26 then ab_i g 31 26 else if k = 27 then ab_i g 31 27 else if k = 28 then ab_i g 31 28 else if k = 29 then ab_i g 31 29 else ab_i g 31 k) else if r = 45 then ab_i g 45 k else if r = 43 then ab_i g 43 k else if r = 44 then ab_i g 44 k else if r = 46 then ab_i g 46 k else ab_i g r k) = ab_i g r k
  by_cases h1 : r = 31
  · subst h1
    rw [if_pos rfl]
    repeat' split
    all_goals first | rfl | (subst_vars; rfl)
  · rw [if_neg h1]
    repeat' split
    all_goals first | rfl | (subst_vars; rfl)
theorem y_r (g : ab_HP) (y : yS) (r k : Nat) : ab_r (y_put g y) r k = ab_r g r k := rfl
theorem y_l (g : ab_HP) (y : yS) (r k : Nat) : ab_l (y_put g y) r k = ab_l g r k := rfl
theorem y_1 (g : ab_HP) (y : yS) : (y_put g y).1 = g.1 := rfl
theorem y_26 (g : ab_HP) (y : yS) : ab_i (y_put g y) 31 26 = y.1 := rfl
theorem y_27 (g : ab_HP) (y : yS) : ab_i (y_put g y) 31 27 = y.2.1 := rfl
theorem y_28 (g : ab_HP) (y : yS) : ab_i (y_put g y) 31 28 = y.2.2.1 := rfl
theorem y_29 (g : ab_HP) (y : yS) : ab_i (y_put g y) 31 29 = y.2.2.2.1 := rfl
theorem y_45 (g : ab_HP) (y : yS) (k : Nat) : ab_i (y_put g y) 45 k = y.2.2.2.2.1 k := rfl
theorem y_43 (g : ab_HP) (y : yS) (k : Nat) : ab_i (y_put g y) 43 k = y.2.2.2.2.2.1 k := rfl
theorem y_44 (g : ab_HP) (y : yS) (k : Nat) : ab_i (y_put g y) 44 k = y.2.2.2.2.2.2.1 k := rfl
theorem y_46 (g : ab_HP) (y : yS) (k : Nat) : ab_i (y_put g y) 46 k = y.2.2.2.2.2.2.2 k := rfl
theorem y_24 (g : ab_HP) (y : yS) : ab_i (y_put g y) 31 24 = ab_i g 31 24 := rfl
theorem y_25 (g : ab_HP) (y : yS) : ab_i (y_put g y) 31 25 = ab_i g 31 25 := rfl
theorem y_s (g : ab_HP) (y : yS) (k : Nat) : ab_i (y_put g y) 32 k = ab_i g 32 k := rfl
theorem y_li (g : ab_HP) (y : yS) (k : Nat) : ab_i (y_put g y) 42 k = ab_i g 42 k := rfl
theorem y_el (g : ab_HP) (y : yS) (k : Nat) : ab_i (y_put g y) 38 k = ab_i g 38 k := rfl
theorem y_oth (g : ab_HP) (y : yS) {r : Nat} (k : Nat) (h1 : r ≠ 31) (h2 : r ≠ 45) (h3 : r ≠ 43) (h4 : r ≠ 44) (h5 : r ≠ 46) : ab_i (y_put g y) r k = ab_i g r k := by
  show (if r = 31 then _ else if r = 45 then _ else if r = 43 then _ else if r = 44 then _ else if r = 46 then _ else _) = _
  rw [if_neg h1, if_neg h2, if_neg h3, if_neg h4, if_neg h5]
theorem y_i (g : ab_HP) (y : yS) (r k : Nat) : ab_i (y_put g y) r k = if r = 31 then (if k = 26 then y.1 else if k = 27 then y.2.1 else if k = 28 then y.2.2.1 else if k = 29 then y.2.2.2.1 else ab_i g 31 k) else if r = 45 then y.2.2.2.2.1 k else if r = 43 then y.2.2.2.2.2.1 k else if r = 44 then y.2.2.2.2.2.2.1 k else if r = 46 then y.2.2.2.2.2.2.2 k else ab_i g r k := rfl
theorem y_31 (g : ab_HP) (y : yS) {k : Nat} (h1 : k ≠ 26) (h2 : k ≠ 27) (h3 : k ≠ 28) (h4 : k ≠ 29) : ab_i (y_put g y) 31 k = ab_i g 31 k := by
  rw [y_i, if_pos rfl, if_neg h1, if_neg h2, if_neg h3, if_neg h4]
theorem y_put2 (g : ab_HP) (y z : yS) : y_put (y_put g y) z = y_put g z := by
  refine Prod.ext rfl (Prod.ext ?_ (Prod.ext rfl rfl))
  funext r k
  show (if r = 31 then (if k = 26 then z.1 else if k = 27 then z.2.1 else if k = 28 then z.2.2.1 else if k = 29 then z.2.2.2.1 else ab_i (y_put g y) 31 k) else if r = 45 then z.2.2.2.2.1 k else if r = 43 then z.2.2.2.2.2.1 k else if r = 44 then z.2.2.2.2.2.2.1 k else if r = 46 then z.2.2.2.2.2.2.2 k else ab_i (y_put g y) r k) = (if r = 31 then (if k = 26 then z.1 else if k = 27 then z.2.1 else if k = 28 then z.2.2.1 else if k = 29 then z.2.2.2.1 else ab_i g 31 k) else if r = 45 then z.2.2.2.2.1 k else if r = 43 then z.2.2.2.2.2.1 k else if r = 44 then z.2.2.2.2.2.2.1 k else if r = 46 then z.2.2.2.2.2.2.2 k else ab_i g r k)
  by_cases h1 : r = 31
  · simp only [if_pos h1]
    by_cases a : k = 26
    · simp only [if_pos a]
    by_cases b : k = 27
    · simp only [if_neg a, if_pos b]
    by_cases c : k = 28
    · simp only [if_neg a, if_neg b, if_pos c]
    by_cases d : k = 29
    · simp only [if_neg a, if_neg b, if_neg c, if_pos d]
    simp only [if_neg a, if_neg b, if_neg c, if_neg d]
    exact y_31 g y a b c d
  · simp only [if_neg h1]
    by_cases a : r = 45
    · simp only [if_pos a]
    by_cases b : r = 43
    · simp only [if_neg a, if_pos b]
    by_cases c : r = 44
    · simp only [if_neg a, if_neg b, if_pos c]
    by_cases d : r = 46
    · simp only [if_neg a, if_neg b, if_neg c, if_pos d]
    simp only [if_neg a, if_neg b, if_neg c, if_neg d]
    exact y_oth g y k h1 a b c d
theorem y_set {g : ab_HP} {y z : yS} {r k : Nat} {v : Int32} (h : ∀ a b, (if a = r ∧ b = k then v else ab_i (y_put g y) a b) = ab_i (y_put g z) a b) : ab_ip (y_put g y) r k v = y_put g z := by
  refine Prod.ext rfl (Prod.ext ?_ (Prod.ext rfl rfl))
  funext a b
  exact h a b
theorem y_p26 (g : ab_HP) (a b c d : Int32) (F C A B : Nat → Int32) (v : Int32) : ab_ip (y_put g (a, b, c, d, F, C, A, B)) 31 26 v = y_put g (v, b, c, d, F, C, A, B) := by
  refine y_set fun r k => ?_
  rw [y_i, y_i]
  by_cases h1 : r = 31
  · subst h1
    by_cases h2 : k = 26
    · subst h2; simp
    · simp [h2]
  · simp [h1]
theorem y_p27 (g : ab_HP) (a b c d : Int32) (F C A B : Nat → Int32) (v : Int32) : ab_ip (y_put g (a, b, c, d, F, C, A, B)) 31 27 v = y_put g (a, v, c, d, F, C, A, B) := by
  refine y_set fun r k => ?_
  rw [y_i, y_i]
  by_cases h1 : r = 31
  · subst h1
    by_cases h2 : k = 27
    · subst h2; simp
    · simp [h2]
  · simp [h1]
theorem y_p28 (g : ab_HP) (a b c d : Int32) (F C A B : Nat → Int32) (v : Int32) : ab_ip (y_put g (a, b, c, d, F, C, A, B)) 31 28 v = y_put g (a, b, v, d, F, C, A, B) := by
  refine y_set fun r k => ?_
  rw [y_i, y_i]
  by_cases h1 : r = 31
  · subst h1
    by_cases h2 : k = 28
    · subst h2; simp
    · simp [h2]
  · simp [h1]
theorem y_p29 (g : ab_HP) (a b c d : Int32) (F C A B : Nat → Int32) (v : Int32) : ab_ip (y_put g (a, b, c, d, F, C, A, B)) 31 29 v = y_put g (a, b, c, v, F, C, A, B) := by
  refine y_set fun r k => ?_
  rw [y_i, y_i]
  by_cases h1 : r = 31
  · subst h1
    by_cases h2 : k = 29
    · subst h2; simp
    · simp [h2]
  · simp [h1]
theorem y_p45 (g : ab_HP) (a b c d : Int32) (F C A B : Nat → Int32) (j : Nat) (v : Int32) : ab_ip (y_put g (a, b, c, d, F, C, A, B)) 45 j v = y_put g (a, b, c, d, upd F j v, C, A, B) := by
  refine y_set fun r k => ?_
  rw [y_i, y_i]
  by_cases h1 : r = 45
  · subst h1
    simp [upd_e]
  · simp [h1]
theorem y_p43 (g : ab_HP) (a b c d : Int32) (F C A B : Nat → Int32) (j : Nat) (v : Int32) : ab_ip (y_put g (a, b, c, d, F, C, A, B)) 43 j v = y_put g (a, b, c, d, F, upd C j v, A, B) := by
  refine y_set fun r k => ?_
  rw [y_i, y_i]
  by_cases h1 : r = 43
  · subst h1
    simp [upd_e]
  · simp [h1]
theorem y_p44 (g : ab_HP) (a b c d : Int32) (F C A B : Nat → Int32) (j : Nat) (v : Int32) : ab_ip (y_put g (a, b, c, d, F, C, A, B)) 44 j v = y_put g (a, b, c, d, F, C, upd A j v, B) := by
  refine y_set fun r k => ?_
  rw [y_i, y_i]
  by_cases h1 : r = 44
  · subst h1
    simp [upd_e]
  · simp [h1]
theorem y_p46 (g : ab_HP) (a b c d : Int32) (F C A B : Nat → Int32) (j : Nat) (v : Int32) : ab_ip (y_put g (a, b, c, d, F, C, A, B)) 46 j v = y_put g (a, b, c, d, F, C, A, upd B j v) := by
  refine y_set fun r k => ?_
  rw [y_i, y_i]
  by_cases h1 : r = 46
  · subst h1
    simp [upd_e]
  · simp [h1]
end PUR
