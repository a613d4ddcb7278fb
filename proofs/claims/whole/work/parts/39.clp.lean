section CLP
/-! the class's pair, as plain functions over the same town and list -/
theorem bt_has (x : Int32) {i : Nat} (hi : i < 32) : ((x >>> (nI i &&& 31)) &&& (1 : Int32) = 0) = (bt x i = false) := by
  apply propext
  have h1 : ∀ j, j < 32 → bt ((x >>> (nI i &&& 31)) &&& (1 : Int32)) j = (decide (j = 0) && bt x i) := by
    intro j hj
    rw [b_and, b_sshr i hi x hj]
    rw [(by decide +kernel : ∀ j, j < 32 → bt 1 j = decide (j = 0)) j hj]
    by_cases h : j = 0
    · subst h
      rw [if_pos (by omega)]
      simp
    · simp [h]
  constructor
  · intro e
    have := h1 0 (by decide)
    rw [e, b_0] at this
    simpa using this.symm
  · intro e
    apply b_ext
    intro j hj
    rw [h1 j hj, e, b_0]
    simp
theorem bt_has1 (x : Int32) {i : Nat} (hi : i < 32) : ((x >>> (nI i &&& 31)) &&& (1 : Int32) = 1) = (bt x i = true) := by
  apply propext
  have h1 : ∀ j, j < 32 → bt ((x >>> (nI i &&& 31)) &&& (1 : Int32)) j = (decide (j = 0) && bt x i) := by
    intro j hj
    rw [b_and, b_sshr i hi x hj]
    rw [(by decide +kernel : ∀ j, j < 32 → bt 1 j = decide (j = 0)) j hj]
    by_cases h : j = 0
    · subst h
      rw [if_pos (by omega)]
      simp
    · simp [h]
  constructor
  · intro e
    have := h1 0 (by decide)
    rw [e] at this
    have e1 : bt 1 0 = true := by decide
    rw [e1] at this
    simpa using this.symm
  · intro e
    apply b_ext
    intro j hj
    rw [h1 j hj, e]
    rw [(by decide +kernel : ∀ j, j < 32 → bt 1 j = decide (j = 0)) j hj]
    simp
theorem y_nb_bt (x : Int32) {i : Nat} (hi : i < 32) : y_nb x i = bt x i := by
  unfold y_nb
  cases h : bt x i
  · rw [decide_eq_false]
    rw [bt_has1 x hi, h]
    decide
  · rw [decide_eq_true]
    rw [bt_has1 x hi, h]
abbrev pbit (i : Nat) : Int32 := (1 : Int32) <<< (nI i &&& 31)
theorem bt_pbit {i j : Nat} (hi : i < 32) (hj : j < 32) : bt (pbit i) j = decide (j = i) := by
  rw [b_shl i hi 1 hj]
  by_cases h : i ≤ j
  · rw [(by decide +kernel : ∀ j, j < 32 → bt 1 j = decide (j = 0)) (j - i) (by omega)]
    simp only [h, decide_true, Bool.true_and]
    congr 1
    apply propext
    omega
  · simp only [h, decide_false, Bool.false_and]
    rw [decide_eq_false (by omega)]
def z_even1 (s : Nat → Int32) (li : Nat → Nat) (nails : Int32) (i : Nat) : zS → zS
  | (m, c, p, dn, un, nl, fm, fl, MD, LS) =>
    if t_mayb s (li i) m c = true then
      (if bt nails i = true ∧ t_price s i ≤ c - t_cost s (li i) then
        (t_marks s (li i) m, c - t_cost s (li i) - t_price s i, p + t_price s i, dn ||| pbit i, un, nl ||| pbit i, (if t_kept s (li i) = 0 then fm else fm ||| pbit i) ||| pbit i, fl, upd MD i (t_marks s (li i) m &&& (m ^^^ (-1))), upd LS i (m &&& (t_marks s (li i) m ^^^ (-1))))
      else
        (t_marks s (li i) m, c - t_cost s (li i), p, dn ||| pbit i, un, nl, if t_kept s (li i) = 0 then fm else fm ||| pbit i, fl, upd MD i (t_marks s (li i) m &&& (m ^^^ (-1))), upd LS i (m &&& (t_marks s (li i) m ^^^ (-1)))))
    else (m, c, p, dn, un, nl, fm, fl, MD, LS)
def z_evens (s : Nat → Int32) (li : Nat → Nat) (nails : Int32) : Nat → zS → zS
  | 0, z => z
  | n + 1, z => z_even1 s li nails n (z_evens s li nails n z)
def z_undo (s : Nat → Int32) (li : Nat → Nat) (i : Nat) : zS → zS
  | (m, c, p, dn, un, nl, fm, fl, MD, LS) => ((m &&& (MD i ^^^ (-1))) ||| LS i, if c + t_back s (li i) < 9999 then c + t_back s (li i) else 9999, p, dn, un ||| pbit i, nl, fm, fl, MD, LS)
def z_fell (i : Nat) : zS → zS
  | (m, c, p, dn, un, nl, fm, fl, MD, LS) => (m, c, p, dn, un, nl, fm, fl ||| pbit i, MD, LS)
def z_firm (z : zS) : Int32 := z.2.2.2.2.2.2.1
def z_und (z : zS) : Int32 := z.2.2.2.2.1
def z_done (z : zS) : Int32 := z.2.2.2.1
def z_fallp (s : Nat → Int32) (li : Nat → Nat) : Nat → Bool → zS → Bool × zS
  | 0, m, z => (m, z)
  | k + 1, m, z => if bt (z_firm z &&& (z_und z ^^^ (-1))) k = true ∧ t_lack s (li k) z.1 ≠ 0 then z_fallp s li k true (z_fell k (z_undo s li k z)) else z_fallp s li k m z
def z_falls (s : Nat → Int32) (li : Nat → Nat) (n : Nat) : Nat → zS → zS
  | 0, z => z
  | f + 1, z => if (z_fallp s li n false z).1 = true then z_falls s li n f (z_fallp s li n false z).2 else (z_fallp s li n false z).2
def z_stayq (s : Nat → Int32) (li : Nat → Nat) (z : zS) (i k : Nat) : Bool := bt (z_firm z) k && !decide (t_g s (li k) 1 &&& (z.2.2.2.2.2.2.2.2.1 i ||| z.2.2.2.2.2.2.2.2.2 i) = 0)
def z_odd1 (s : Nat → Int32) (li : Nat → Nat) (lw : Int32) (n i : Nat) (z : zS) : zS :=
  if bt (z_done z &&& (z_firm z ^^^ (-1))) i = true then
    (if lw = 1 ∧ y_some (z_stayq s li z i) (n - (i + 1)) (i + 1) = true then z
    else if lw = 0 then z_falls s li n (n + 1) (z_undo s li i z) else z_undo s li i z)
  else z
def z_odds (s : Nat → Int32) (li : Nat → Nat) (lw : Int32) (n : Nat) : Nat → zS → zS
  | 0, z => z
  | k + 1, z => z_odds s li lw n k (z_odd1 s li lw n k z)
end CLP
