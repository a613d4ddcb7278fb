section PAIRP
/-! a pair of years, as a plain function over a town s and a list li of n deeds -/
theorem upd2 (f : Nat → Int32) (i : Nat) (x y : Int32) : upd (upd f i x) i y = upd f i y := by
  funext j
  simp only [upd_e]
  split <;> rfl
theorem upd_at (f : Nat → Int32) (i : Nat) (x : Int32) : upd f i x i = x := by rw [upd_e, if_pos rfl]
def t_mayb (s : Nat → Int32) (d : Nat) (so c : Int32) : Bool := decide (t_lack s d so = 0) && decide (t_cost s d ≤ c)
def y_nb (nails : Int32) (i : Nat) : Bool := decide ((nails >>> (nI i &&& 31)) &&& (1 : Int32) = 1)
theorem y_nb_e (nails : Int32) (i : Nat) : ((nails >>> (nI i &&& 31)) &&& (1 : Int32) = 1) = (y_nb nails i = true) := by
  unfold y_nb
  rw [decide_eq_true_eq]
def y_even1 (s : Nat → Int32) (li : Nat → Nat) (nails : Int32) (i : Nat) : yS → yS
  | (so, c, p, u, F, C, A, B) =>
    if t_mayb s (li i) so c = true then
      (if y_nb nails i = true ∧ t_price s i ≤ c - t_cost s (li i) then
        (t_marks s (li i) so, c - t_cost s (li i) - t_price s i, p + t_price s i, u, upd F i 2, upd C i (t_marks s (li i) so ^^^ so), upd A i (so &&& (t_marks s (li i) so ^^^ so)), upd B i (t_marks s (li i) so))
      else
        (t_marks s (li i) so, c - t_cost s (li i), p, u, upd F i (if t_kept s (li i) = 0 then 1 else 3), upd C i (t_marks s (li i) so ^^^ so), upd A i (so &&& (t_marks s (li i) so ^^^ so)), upd B i (t_marks s (li i) so)))
    else (so, c, p, u, upd F i 0, upd C i 0, A, upd B i so)
def y_evens (s : Nat → Int32) (li : Nat → Nat) (nails : Int32) : Nat → yS → yS
  | 0, y => y
  | n + 1, y => y_even1 s li nails n (y_evens s li nails n y)
def y_hold (F : Nat → Int32) (k : Nat) : Bool := decide (F k = 2) || decide (F k = 3)
def y_undo (s : Nat → Int32) (li : Nat → Nat) (i : Nat) (how : Int32) : yS → yS
  | (so, c, p, u, F, C, A, B) => ((so &&& (C i ^^^ (-1))) ||| A i, if c + t_back s (li i) ≤ 9999 then c + t_back s (li i) else 9999, p, u + 1, upd F i how, C, A, B)
def y_fallp (s : Nat → Int32) (li : Nat → Nat) : Nat → Bool → yS → Bool × yS
  | 0, m, y => (m, y)
  | k + 1, m, y => if y_hold y.2.2.2.2.1 k = true ∧ t_lack s (li k) y.1 ≠ 0 then y_fallp s li k true (y_undo s li k 5 y) else y_fallp s li k m y
def y_falls (s : Nat → Int32) (li : Nat → Nat) (n : Nat) : Nat → yS → yS
  | 0, y => y
  | f + 1, y => if (y_fallp s li n false y).1 = true then y_falls s li n f (y_fallp s li n false y).2 else (y_fallp s li n false y).2
def y_some (p : Nat → Bool) : Nat → Nat → Bool
  | 0, _ => false
  | c + 1, k => p k || y_some p c (k + 1)
def y_heldq (s : Nat → Int32) (li : Nat → Nat) (F C : Nat → Int32) (i k : Nat) : Bool := y_hold F k && !decide (t_g s (li k) 1 &&& C i = 0)
def y_odd1 (s : Nat → Int32) (li : Nat → Nat) (n i : Nat) (y : yS) : yS :=
  if y.2.2.2.2.1 i = 1 then
    (if s 3 = 1 ∧ y_some (y_heldq s li y.2.2.2.2.1 y.2.2.2.2.2.1 i) (n - (i + 1)) (i + 1) = true then (y.1, y.2.1, y.2.2.1, y.2.2.2.1, upd y.2.2.2.2.1 i 4, y.2.2.2.2.2)
    else if s 3 = 0 then y_falls s li n (n + 1) (y_undo s li i 1 y) else y_undo s li i 1 y)
  else y
def y_odds (s : Nat → Int32) (li : Nat → Nat) (n : Nat) : Nat → yS → yS
  | 0, y => y
  | k + 1, y => y_odds s li n k (y_odd1 s li n k y)
def y_pair (s : Nat → Int32) (li : Nat → Nat) (n : Nat) (nails : Int32) (y : yS) : yS := y_odds s li n n (y_evens s li nails n y)
/-! the falling ends -/
def y_cnt (n : Nat) (y : yS) : Nat := fb_ct (y_hold y.2.2.2.2.1) n
theorem y_undo_F (s : Nat → Int32) (li : Nat → Nat) (i : Nat) (how : Int32) (y : yS) : (y_undo s li i how y).2.2.2.2.1 = upd y.2.2.2.2.1 i how := rfl
theorem y_undo_hold (s : Nat → Int32) (li : Nat → Nat) (i : Nat) (y : yS) : y_hold (y_undo s li i 5 y).2.2.2.2.1 = fun k => if k = i then false else y_hold y.2.2.2.2.1 k := by
  funext k
  rw [y_undo_F]
  simp only [y_hold, upd_e]
  split
  · rfl
  · rfl
theorem y_undo_cnt {s : Nat → Int32} {li : Nat → Nat} {i n : Nat} {y : yS} (hi : i < n) (h : y_hold y.2.2.2.2.1 i = true) : y_cnt n (y_undo s li i 5 y) + 1 = y_cnt n y := by
  unfold y_cnt
  rw [y_undo_hold]
  have := fb_ct_upd (y_hold y.2.2.2.2.1) false hi
  rw [if_pos h] at this
  simpa using this
theorem y_fallp_cnt (s : Nat → Int32) (li : Nat → Nat) (n : Nat) : ∀ (k : Nat) (m : Bool) (y : yS), k ≤ n → y_cnt n (y_fallp s li k m y).2 ≤ y_cnt n y ∧ ((y_fallp s li k m y).1 = true → m = true ∨ y_cnt n (y_fallp s li k m y).2 < y_cnt n y)
  | 0, m, y, _ => ⟨Nat.le_refl _, fun h => Or.inl h⟩
  | k + 1, m, y, hk => by
    unfold y_fallp
    split
    · rename_i h
      have h1 := y_undo_cnt (s := s) (li := li) (y := y) (show k < n by omega) h.1
      have h2 := y_fallp_cnt s li n k true (y_undo s li k 5 y) (by omega)
      refine ⟨by omega, fun _ => Or.inr (by omega)⟩
    · exact y_fallp_cnt s li n k m y (by omega)
theorem y_falls_stab (s : Nat → Int32) (li : Nat → Nat) (n : Nat) : ∀ (F G : Nat) (y : yS), y_cnt n y < F → y_cnt n y < G → y_falls s li n F y = y_falls s li n G y
  | 0, _, _, h, _ => absurd h (Nat.not_lt_zero _)
  | _ + 1, 0, _, _, h => absurd h (Nat.not_lt_zero _)
  | F + 1, G + 1, y, h1, h2 => by
    unfold y_falls
    have h3 := y_fallp_cnt s li n n false y (Nat.le_refl _)
    split
    · rename_i hm
      have h4 := h3.2 hm
      simp at h4
      exact y_falls_stab s li n F G _ (by omega) (by omega)
    · rfl
theorem y_cnt_le (n : Nat) (y : yS) : y_cnt n y ≤ n := fb_ct_le _ _
end PAIRP
