section PRS
/-! a text's bytes: el below m; the places behind what is asked for -/
section
variable (el : Nat → Int32) (m : Nat)
def cD (p : Nat) : Bool := decide (p < m) && decide (48 ≤ el p ∧ el p ≤ 57)
def cL (p : Nat) : Bool := decide (p < m) && decide (97 ≤ el p ∧ el p ≤ 106)
def cS (c : Int32) (p : Nat) : Bool := decide (p < m) && decide (el p = c)
abbrev rT : Type := Bool × Nat
def bSign (c : Int32) (r : rT) : rT := if r.1 = true then (if cS el m c r.2 = true then (true, r.2 + 1) else (false, r.2)) else r
def bDig (r : rT) : rT := if r.1 = true then (if cD el m r.2 = true then (true, r.2 + 1) else (false, r.2)) else r
def bLet (r : rT) : rT := if r.1 = true then (if cL el m r.2 = true then (true, r.2 + 1) else (false, r.2)) else r
def nds : Nat → Int32 → Nat → Nat
  | 0, _, p => p
  | n + 1, last, p => if cL el m p = true ∧ last < el p then nds n (el p) (p + 1) else p
def dgs : Nat → Nat → Nat
  | 0, p => p
  | n + 1, p => if cD el m p = true then dgs n (p + 1) else p
def bNeeds (r : rT) : rT := if r.1 = true then (true, nds el m 10 0 r.2) else r
def bNum (k : Nat) (r : rT) : rT := if r.1 = true then (if cD el m r.2 = true then (if el r.2 = 48 then (true, r.2 + 1) else (true, dgs el m (k - 1) (r.2 + 1))) else (false, r.2)) else r
def bDeed (r : rT) : rT := bDig el m (bSign el m 32 (bNum el m 2 (bLet el m (bSign el m 32 (bNeeds el m (bDig el m r))))))
def bNail (r : rT) : rT := if (bSign el m 32 (bNum el m 2 r)).1 = true ∧ cS el m 45 (bSign el m 32 (bNum el m 2 r)).2 = true then bDig el m (true, (bSign el m 32 (bNum el m 2 r)).2 + 1) else bDig el m (bSign el m 43 (bSign el m 32 (bNum el m 2 r)))
def bStmt (p : Nat) : rT := if cS el m 99 p = true then bSign el m 59 (bNum el m 4 (true, p + 1)) else if cS el m 100 p = true then bSign el m 59 (bDeed el m (true, p + 1)) else if cS el m 108 p = true then bSign el m 59 (bDig el m (true, p + 1)) else if cS el m 109 p = true then bSign el m 59 (bLet el m (true, p + 1)) else if cS el m 110 p = true then bSign el m 59 (bNail el m (true, p + 1)) else (false, p)
def rdv (p : Nat) : Int32 := if p < m then el p else -2147483648
end
def rE (r : rT) : Int32 := if r.1 = true then nI r.2 else -1 - nI r.2
theorem rE_int {r : rT} (h : r.2 < 2 ^ 31) : (rE r).toInt = if r.1 = true then (r.2 : Int) else -1 - (r.2 : Int) := by
  unfold rE
  split
  · exact nI_toInt h
  · have e : (-1 : Int32).toInt = -1 := rfl
    rw [n_sub (by rw [nI_toInt h, e]; omega) (by rw [nI_toInt h, e]; omega), nI_toInt h, e]
theorem rE_ge {r : rT} (h : r.2 < 2 ^ 31) : (0 ≤ rE r) = (r.1 = true) := by
  rw [n_le, rE_int h, l_int0]
  by_cases q : r.1 = true
  · rw [if_pos q]; exact propext ⟨fun _ => q, fun _ => by omega⟩
  · rw [if_neg q]; exact propext ⟨fun _ => by omega, fun x => absurd x q⟩
theorem rE_lt {r : rT} (h : r.2 < 2 ^ 31) : (rE r < 0) = ¬ (r.1 = true) := by
  rw [n_lt, rE_int h, l_int0]
  by_cases q : r.1 = true
  · rw [if_pos q]; exact propext ⟨fun _ => by omega, fun x => absurd q x⟩
  · rw [if_neg q]; exact propext ⟨fun _ => q, fun x => by omega⟩
theorem rE_t (p : Nat) : rE (true, p) = nI p := rfl
theorem rE_f (p : Nat) : rE (false, p) = -1 - nI p := rfl
section
variable {U : ab_HP} {d m : Nat} {el : Nat → Int32}
def txt (U : ab_HP) (d m : Nat) (el : Nat → Int32) : Prop := cp U ∧ d < 8 ∧ m ≤ 100 ∧ ab_i U (15 + 2 * d) 3 = nI m ∧ ∀ k, k < m → ab_i U (16 + 2 * d) k = el k
theorem c_rdv (T : txt U d m el) {p : Nat} (hp : p < 2 ^ 31) : f_X6_read (15 + 2 * d) (nI p) U = some (rdv el m p) := by
  obtain ⟨hc, hd, hm, es, he⟩ := T
  unfold rdv
  by_cases q : p < m
  · rw [c_rd hc hd hm es q, if_pos q, he p q]
  · rw [c_rdf hm es (by rw [nI_toInt hp]; omega), if_neg q]
theorem c_isD (el : Nat → Int32) (m p : Nat) (h : ab_HP) : f_X9_isDigit (rdv el m p) h = some (bI (cD el m p)) := by
  unfold f_X9_isDigit rdv cD
  by_cases q : p < m
  · simp only [q, if_true, decide_true, Bool.true_and]
    by_cases a : el p < 48
    · rw [if_pos a, decide_eq_false (fun x => by have := x.1; rw [n_le] at this; rw [n_lt] at a; omega), bI_f]
    · rw [if_neg a]
      by_cases b : 57 < el p
      · rw [if_pos b, decide_eq_false (fun x => by have := x.2; rw [n_le] at this; rw [n_lt] at b; omega), bI_f]
      · rw [if_neg b, decide_eq_true ⟨by rw [n_le]; rw [n_lt] at a; omega, by rw [n_le]; rw [n_lt] at b; omega⟩, bI_t]
  · simp only [q, if_false, decide_false, Bool.false_and, bI_f]
    rw [if_pos (by decide)]
theorem c_isL (el : Nat → Int32) (m p : Nat) (h : ab_HP) : f_X9_isLetter (rdv el m p) h = some (bI (cL el m p)) := by
  unfold f_X9_isLetter rdv cL
  by_cases q : p < m
  · simp only [q, if_true, decide_true, Bool.true_and]
    by_cases a : el p < 97
    · rw [if_pos a, decide_eq_false (fun x => by have := x.1; rw [n_le] at this; rw [n_lt] at a; omega), bI_f]
    · rw [if_neg a]
      by_cases b : 106 < el p
      · rw [if_pos b, decide_eq_false (fun x => by have := x.2; rw [n_le] at this; rw [n_lt] at b; omega), bI_f]
      · rw [if_neg b, decide_eq_true ⟨by rw [n_le]; rw [n_lt] at a; omega, by rw [n_le]; rw [n_lt] at b; omega⟩, bI_t]
  · simp only [q, if_false, decide_false, Bool.false_and, bI_f]
    rw [if_pos (by decide)]
theorem rdv_eq (el : Nat → Int32) (m p : Nat) {c : Int32} (hc : c ≠ -2147483648) : (rdv el m p = c) = (cS el m c p = true) := by
  unfold rdv cS
  by_cases q : p < m
  · simp only [q, if_true, decide_true, Bool.true_and, decide_eq_true_eq]
  · simp only [q, if_false, decide_false, Bool.false_and, Bool.false_eq_true, eq_iff_iff, iff_false]
    exact fun x => hc x.symm
theorem c_bSign (T : txt U d m el) {c : Int32} (hc : c ≠ -2147483648) {r : rT} (hr : r.2 < 1000) : f_X9_behindSign (some (15 + 2 * d)) (rE r) c U = some (rE (bSign el m c r)) := by
  obtain ⟨b, p⟩ := r
  have hp : p < 1000 := hr
  unfold f_X9_behindSign bSign
  simp only [rE_ge (r := (b, p)) (show p < 2 ^ 31 by omega)]
  cases b
  · simp only [Bool.false_eq_true, if_false]
  · simp only [if_true, rE_t, Option.bind_some, ab_let, Option.elim_some, Option.elim_none, c_rdv T (show p < 2 ^ 31 by omega), rdv_eq el m p hc, f_X9_wrongAt]
    rcases Bool.eq_false_or_eq_true (cS el m c p) with hb | hb
    · simp only [hb, if_true, nI_1, rE_t]
    · simp only [hb, Bool.false_eq_true, if_false, rE_f]
theorem c_bDig (T : txt U d m el) {r : rT} (hr : r.2 < 1000) : f_X9_behindDigit (some (15 + 2 * d)) (rE r) U = some (rE (bDig el m r)) := by
  obtain ⟨b, p⟩ := r
  have hp : p < 1000 := hr
  unfold f_X9_behindDigit bDig
  simp only [rE_ge (r := (b, p)) (show p < 2 ^ 31 by omega)]
  cases b
  · simp only [Bool.false_eq_true, if_false]
  · simp only [if_true, rE_t, Option.bind_some, ab_let, Option.elim_some, Option.elim_none, c_rdv T (show p < 2 ^ 31 by omega), c_isD, bI_0, f_X9_wrongAt]
    rcases Bool.eq_false_or_eq_true (cD el m p) with hb | hb
    · simp only [hb, Bool.true_eq_false, if_true, if_false, nI_1, rE_t]
    · simp only [hb, Bool.false_eq_true, if_true, if_false, rE_f]
theorem c_bLet (T : txt U d m el) {r : rT} (hr : r.2 < 1000) : f_X9_behindLetter (some (15 + 2 * d)) (rE r) U = some (rE (bLet el m r)) := by
  obtain ⟨b, p⟩ := r
  have hp : p < 1000 := hr
  unfold f_X9_behindLetter bLet
  simp only [rE_ge (r := (b, p)) (show p < 2 ^ 31 by omega)]
  cases b
  · simp only [Bool.false_eq_true, if_false]
  · simp only [if_true, rE_t, Option.bind_some, ab_let, Option.elim_some, Option.elim_none, c_rdv T (show p < 2 ^ 31 by omega), c_isL, bI_0, f_X9_wrongAt]
    rcases Bool.eq_false_or_eq_true (cL el m p) with hb | hb
    · simp only [hb, Bool.true_eq_false, if_true, if_false, nI_1, rE_t]
    · simp only [hb, Bool.false_eq_true, if_true, if_false, rE_f]
theorem c_nds (T : txt U d m el) : ∀ (n k : Nat) (last : Int32) (p : Nat), k + n = 10 → p < 2000 → ∀ F, n < F → f_X9_behindNeeds_l7 F (some (15 + 2 * d)) (nI p) last (nI k) U = some (nI (nds el m n last p))
  | 0, k, last, p, e, hp, F + 1, _ => by
    have e : k = 10 := by omega
    subst e
    rw [f_X9_behindNeeds_l7, if_pos (show (10 : Int32) ≤ nI 10 by decide), nds]
  | n + 1, k, last, p, e, hp, F + 1, hF => by
    have q : ¬ (10 : Int32) ≤ nI k := nI_ge (b := 10) (by omega) (by decide)
    by_cases hpm : p < m
    · have hm := T.2.2.1
      have rv : rdv el m p = el p := if_pos hpm
      have isl : f_X9_isLetter (el p) U = some (bI (cL el m p)) := by rw [← c_isL el m p U, rv]
      have ih := c_nds T n (k + 1) (el p) (p + 1) (by omega) (by omega) F (by omega)
      rw [f_X9_behindNeeds_l7, if_neg q, nds]
      simp only [Option.bind_some, ab_let, Option.elim_some, Option.elim_none, c_rdv T (show p < 2 ^ 31 by omega), rv, isl, bI_0, nI_1, ih]
      rcases Bool.eq_false_or_eq_true (cL el m p) with hb | hb
      · simp only [hb, Bool.true_eq_false, if_false, true_and]
        by_cases a : el p ≤ last
        · have a2 : ¬ last < el p := by rw [n_lt]; rw [n_le] at a; omega
          simp only [a, a2, if_true, if_false]
        · have a2 : last < el p := by rw [n_lt]; rw [n_le] at a; omega
          simp only [a, a2, if_true, if_false]
      · simp only [hb, Bool.false_eq_true, if_true, false_and, if_false]
    · have hb : cL el m p = false := by unfold cL; rw [decide_eq_false hpm, Bool.false_and]
      rw [f_X9_behindNeeds_l7, if_neg q, nds]
      simp only [Option.bind_some, ab_let, Option.elim_some, Option.elim_none, c_rdv T (show p < 2 ^ 31 by omega), c_isL, bI_0, hb, Bool.false_eq_true, if_true, false_and, if_false]
  | _, _, _, _, _, _, 0, h => absurd h (Nat.not_lt_zero _)
theorem c_bNeeds (T : txt U d m el) {r : rT} (hr : r.2 < 1000) : f_X9_behindNeeds (some (15 + 2 * d)) (rE r) U = some (rE (bNeeds el m r)) := by
  obtain ⟨b, p⟩ := r
  have hp : p < 1000 := hr
  rw [f_X9_behindNeeds]
  obtain ⟨F, hF⟩ : ∃ F, (1000 : Nat) = F + 11 := ⟨989, rfl⟩
  rw [hF]
  cases b
  · have lt : (rE (false, p)).toInt < 0 := by
      rw [rE_int (show p < 2 ^ 31 by omega), if_neg (show ¬ ((false, p) : rT).1 = true from Bool.false_ne_true)]
      omega
    have il : f_X9_isLetter (-2147483648) U = some 0 := by unfold f_X9_isLetter; rw [if_pos (by decide)]
    rw [f_X9_behindNeeds_l7, if_neg (by decide), Option.bind_some, c_rdf T.2.2.1 T.2.2.2.1 (Or.inl lt), Option.bind_some, il, Option.bind_some, if_pos rfl]
    rfl
  · have := c_nds T 10 0 0 p (by omega) (by omega) (F + 11) (by omega)
    rw [show nI 0 = (0 : Int32) from rfl] at this
    exact this
theorem c_dgs (T : txt U d m el) {k : Nat} (hk : k < 100) : ∀ (c n p : Nat), n + c = k → p < 2000 → ∀ F, c < F → f_X9_behindNumber_l25 F (some (15 + 2 * d)) (nI k) (nI p) (nI n) U = some (nI (dgs el m c p))
  | 0, n, p, e, hp, F + 1, _ => by
    rw [f_X9_behindNumber_l25, if_pos (nI_le (by omega) (by omega)), dgs]
  | c + 1, n, p, e, hp, F + 1, hF => by
    have q : ¬ nI k ≤ nI n := nI_ge (by omega) (by omega)
    rw [f_X9_behindNumber_l25, if_neg q, dgs]
    simp only [Option.bind_some, ab_let, Option.elim_some, Option.elim_none, c_rdv T (show p < 2 ^ 31 by omega), c_isD, bI_0, nI_1]
    rcases Bool.eq_false_or_eq_true (cD el m p) with hb | hb
    · have hpm : p < m := by
        unfold cD at hb
        rw [Bool.and_eq_true, decide_eq_true_eq] at hb
        exact hb.1
      have hm := T.2.2.1
      have ih := c_dgs T hk c (n + 1) (p + 1) (by omega) (by omega) F (by omega)
      simp only [hb, Bool.true_eq_false, if_false, if_true, ih]
    · simp only [hb, Bool.false_eq_true, if_true, if_false]
  | _, _, _, _, _, 0, h => absurd h (Nat.not_lt_zero _)
theorem c_bNum (T : txt U d m el) {k : Nat} (h1 : 1 ≤ k) (hk : k < 100) {r : rT} (hr : r.2 < 1000) : f_X9_behindNumber (some (15 + 2 * d)) (rE r) (nI k) U = some (rE (bNum el m k r)) := by
  rw [f_X9_behindNumber, c_bDig T hr, Option.bind_some]
  obtain ⟨F, hF⟩ : ∃ F, (1000 : Nat) = F + 100 := ⟨900, rfl⟩
  rw [hF]
  obtain ⟨b, p⟩ := r
  have hp : p < 1000 := hr
  unfold bNum bDig
  cases b
  · rw [if_neg (show ¬ ((false, p) : rT).1 = true from Bool.false_ne_true), if_neg (show ¬ ((false, p) : rT).1 = true from Bool.false_ne_true), if_pos]
    rw [rE_lt (r := (false, p)) (show p < 2 ^ 31 by omega)]
    exact Bool.false_ne_true
  · rw [if_pos (show ((true, p) : rT).1 = true from rfl), if_pos (show ((true, p) : rT).1 = true from rfl)]
    rcases Bool.eq_false_or_eq_true (cD el m p) with hb | hb
    · have hpm : p < m := by
        unfold cD at hb
        rw [Bool.and_eq_true, decide_eq_true_eq] at hb
        exact hb.1
      have rv : rdv el m p = el p := if_pos hpm
      have dg := c_dgs T hk (k - 1) 1 (p + 1) (by omega) (by omega) (F + 100) (by omega)
      rw [show nI 1 = (1 : Int32) from rfl] at dg
      have rd := c_rdv T (show p < 2 ^ 31 by omega)
      rw [rv] at rd
      rw [if_pos hb, if_pos hb, if_neg (by rw [rE_lt (r := (true, p + 1)) (show p + 1 < 2 ^ 31 by omega)]; exact fun x => x rfl), Option.bind_some, rE_t, rd, Option.bind_some]
      by_cases z : el p = 48
      · rw [if_pos z, if_pos z]
      · rw [if_neg z, if_neg z, rE_t, dg, rE_t]
    · have hb2 : ¬ cD el m p = true := by rw [hb]; decide
      rw [if_neg hb2, if_neg hb2, if_pos]
      rw [rE_lt (r := (false, p)) (show p < 2 ^ 31 by omega)]
      exact Bool.false_ne_true
end
end PRS
