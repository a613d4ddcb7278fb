section PRN
theorem bNum_1 (el : Nat → Int32) (m : Nat) (r : rT) : bNum el m 1 r = bDig el m r := by
  unfold bNum bDig
  split
  · split
    · split
      · rfl
      · rfl
    · rfl
  · rfl
theorem bSign_f (el : Nat → Int32) (m : Nat) (c : Int32) {r : rT} (h : ¬ r.1 = true) : bSign el m c r = r := by unfold bSign; rw [if_neg h]
theorem bDig_f (el : Nat → Int32) (m : Nat) {r : rT} (h : ¬ r.1 = true) : bDig el m r = r := by unfold bDig; rw [if_neg h]
theorem bLet_f (el : Nat → Int32) (m : Nat) {r : rT} (h : ¬ r.1 = true) : bLet el m r = r := by unfold bLet; rw [if_neg h]
theorem bNum_f (el : Nat → Int32) (m k : Nat) {r : rT} (h : ¬ r.1 = true) : bNum el m k r = r := by unfold bNum; rw [if_neg h]
theorem bNeeds_f (el : Nat → Int32) (m : Nat) {r : rT} (h : ¬ r.1 = true) : bNeeds el m r = r := by unfold bNeeds; rw [if_neg h]
theorem rT_t {r : rT} (h : r.1 = true) : r = (true, r.2) := Prod.ext h rfl
def lts (el : Nat → Int32) : Nat → Nat → Int32 → Int32
  | 0, _, a => a
  | c + 1, p, a => lts el c (p + 1) (a ||| (1 : Int32) <<< ((el p - 97) &&& 31))
/-- how the Model's last letter stands to the class's -/
def nrel (i1 L : Int32) (k : Nat) : Prop := (i1 = -1 ∧ L = 0 ∧ k = 0) ∨ ∃ x, 96 + k ≤ x ∧ x ≤ 106 ∧ 1 ≤ k ∧ L = nI x ∧ i1 = nI x - 97
theorem nrel_c {i1 L : Int32} {k : Nat} (R : nrel i1 L k) (el : Nat → Int32) (m p : Nat) : (((97 : Int32) + i1) + 1 ≤ mhv el m p ∧ mhv el m p ≤ 106) ↔ (cL el m p = true ∧ L < el p) := by
  unfold mhv cL
  have e97 : (97 : Int32).toInt = 97 := rfl
  have e106 : (106 : Int32).toInt = 106 := rfl
  rw [Bool.and_eq_true, decide_eq_true_eq, decide_eq_true_eq]
  rcases R with ⟨r1, r2, r3⟩ | ⟨x, x1, x2, x3, x4, x5⟩
  · subst r1 r2
    rw [show ((97 : Int32) + -1) + 1 = 97 by decide]
    by_cases q : p < m
    · rw [if_pos q, n_le, n_le, n_lt, e97, e106, l_int0]
      omega
    · rw [if_neg q]
      constructor
      · intro h; exact absurd h.1 (by decide)
      · intro h; exact absurd h.1.1 q
  · subst x4 x5
    have e : ((97 : Int32) + (nI x - 97)) + 1 = nI (x + 1) := by
      rw [n_lit 97, nx_sub (by omega), nI_add, nI_1]
      congr 1
      omega
    rw [e]
    by_cases q : p < m
    · rw [if_pos q, n_le, n_le, n_le, n_lt, e97, e106, nI_toInt (by omega), nI_toInt (by omega)]
      omega
    · rw [if_neg q]
      constructor
      · intro h
        have := h.1
        rw [n_le, nI_toInt (by omega), show (-1000 : Int32).toInt = -1000 by decide] at this
        omega
      · intro h; exact absurd h.1.1 q
/-- what comes behind the letters -/
def nd_tail (h : ab_HP) : Option (Int32 × ab_HP) :=
    (ab_let (ab_ip h 31 14 0) fun h13 =>
    (f_X12_takes 31 32 h13).bind fun w14 =>
    if w14.1 = 0 then (some (0, w14.2))
    else ((f_X12_readsMark 31 w14.2).bind fun w17 =>
    if w17.1 = 0 then (some (0, w17.2))
    else ((f_X12_readsNumber 31 2 w17.2).bind fun w20 =>
    if w20.1 = 0 then (some (0, w20.2))
    else ((f_X12_takes 31 32 w20.2).bind fun w23 =>
    if w23.1 = 0 then (some (0, w23.2))
    else ((f_X12_readsNumber 31 1 w23.2).bind fun w26 =>
    if w26.1 = 0 then (some (0, w26.2))
    else (((ab_r w26.2 31 16)).bind fun q30 =>
    if ab_in 2 (ab_shp q30).2 = true then
    (ab_let (ab_ip w26.2 31 18 (ab_i w26.2 q30 (2 : Int32).toNatClampNeg)) fun h32 =>
    some (1, h32)) else none))))))
section
variable {V : ab_HP} {d m p : Nat} {el : Nat → Int32}
theorem m_l27 (F : Nat) : ∀ (n k : Nat) (i1 L a : Int32) (p : Nat) (V : ab_HP), k + n = 10 → nrel i1 L k → mtx V d m el → ab_i V 31 11 = nI p → ab_i V 31 15 = a → p < 1500 → ∃ W, f_X12_readsDeed_l27 31 (F + 1 + n) i1 V = nd_tail W ∧ pfr V W ∧ ab_i W 31 11 = nI (nds el m n L p) ∧ ab_i W 31 15 = lts el (nds el m n L p - p) p a ∧ ∀ r j, ¬ (r = 31 ∧ (j = 11 ∨ j = 15)) → ab_i W r j = ab_i V r j
  | 0, k, i1, L, a, p, V, e, R, T, h, h15, hp => by
    have nc : ¬ (((97 : Int32) + i1) + 1 ≤ mhv el m p ∧ mhv el m p ≤ 106) := by
      rw [nrel_c R]
      rcases R with ⟨r1, r2, r3⟩ | ⟨x, x1, x2, x3, x4, x5⟩
      · omega
      · rintro ⟨q1, q2⟩
        unfold cL at q1
        rw [Bool.and_eq_true, decide_eq_true_eq, decide_eq_true_eq] at q1
        have q3 := q1.2.2
        rw [x4] at q2
        rw [n_lt, nI_toInt (by omega)] at q2
        rw [n_le, show (106 : Int32).toInt = 106 from rfl] at q3
        omega
    refine ⟨V, ?_, pfr_refl V, h, ?_, fun _ _ _ => rfl⟩
    · rw [show F + 1 + 0 = F + 1 from rfl, f_X12_readsDeed_l27, m_here T h (by omega), Option.bind_some, is_in0 (mhv el m p) (((97 : Int32) + i1) + 1).toInt64 106 (((97 : Int32) + i1) + 1) 106 V rfl rfl, Option.bind_some, if_neg nc, if_pos rfl]
      rfl
    · rw [nds, Nat.sub_self, lts]
      exact h15
  | n + 1, k, i1, L, a, p, V, e, R, T, h, h15, hp => by
    have hm := T.2.2.1
    rw [show F + 1 + (n + 1) = (F + 1 + n) + 1 from rfl, f_X12_readsDeed_l27, m_here T h (by omega), Option.bind_some, is_in0 (mhv el m p) (((97 : Int32) + i1) + 1).toInt64 106 (((97 : Int32) + i1) + 1) 106 V rfl rfl, Option.bind_some, nds]
    by_cases c : cL el m p = true ∧ L < el p
    · have nc := (nrel_c R el m p).mpr c
      have pm : p < m := by
        have := c.1
        unfold cL at this
        rw [Bool.and_eq_true, decide_eq_true_eq] at this
        exact this.1
      have e1 : mhv el m p = el p := if_pos pm
      have R2 : nrel (el p - 97) (el p) (k + 1) := by
        have q := c.1
        unfold cL at q
        rw [Bool.and_eq_true, decide_eq_true_eq, decide_eq_true_eq, n_le, n_le, show (97 : Int32).toInt = 97 from rfl, show (106 : Int32).toInt = 106 from rfl] at q
        obtain ⟨x, hx, ex⟩ : ∃ x, x < 107 ∧ el p = nI x := n_in (by omega) (by omega)
        have q2 := c.2
        rw [ex] at q q2 ⊢
        rw [nI_toInt (by omega)] at q
        refine Or.inr ⟨x, ?_, by omega, by omega, rfl, rfl⟩
        rcases R with ⟨r1, r2, r3⟩ | ⟨y, y1, y2, y3, y4, y5⟩
        · omega
        · rw [y4, n_lt, nI_toInt (by omega), nI_toInt (by omega)] at q2
          omega
      have o : ∀ v r j, ¬ (r = 31 ∧ (j = 11 ∨ j = 15)) → ab_i (ab_ip (ab_ip V 31 15 v) 31 11 (nI (p + 1))) r j = ab_i V r j := fun v r j q => by rw [hi_ip, if_neg (by omega), hi_ip, if_neg (by omega)]
      have A0 : ∀ v, pfr V (ab_ip (ab_ip V 31 15 v) 31 11 (nI (p + 1))) := fun v => (pfr_ip (by omega)).trans (pfr_ip (by omega))
      obtain ⟨W, w1, w2, w3, w4, w5⟩ := m_l27 F n (k + 1) (el p - 97) (el p) (a ||| (1 : Int32) <<< ((el p - 97) &&& 31)) (p + 1) (ab_ip (ab_ip V 31 15 (a ||| (1 : Int32) <<< ((el p - 97) &&& 31))) 31 11 (nI (p + 1))) (by omega) R2 (mtx.pfr (A0 _) T) (by rw [hi_ip, if_pos ⟨rfl, rfl⟩]) (by rw [hi_ip, if_neg (by omega), hi_ip, if_pos ⟨rfl, rfl⟩]) (by omega)
      have nr := nds_r el m n (el p) (p + 1)
      rw [if_pos nc, if_neg (by decide), Option.bind_some, e1, if_pos c]
      refine ⟨W, ?_, (A0 _).trans w2, w3, ?_, fun r j q => (w5 r j q).trans (o _ r j q)⟩
      · unfold ab_let
        dsimp only
        rw [h15, show ab_i (ab_ip V 31 15 (a ||| (1 : Int32) <<< ((el p - 97) &&& 31))) 31 11 = nI p by rw [hi_ip, if_neg (by omega)]; exact h, nI_1]
        exact w1
      · rw [w4, show nds el m n (el p) (p + 1) - p = (nds el m n (el p) (p + 1) - (p + 1)) + 1 by omega, lts]
    · have nc : ¬ (((97 : Int32) + i1) + 1 ≤ mhv el m p ∧ mhv el m p ≤ 106) := fun x => c ((nrel_c R el m p).mp x)
      rw [if_neg nc, if_pos rfl, if_neg c]
      refine ⟨V, rfl, pfr_refl V, h, ?_, fun _ _ _ => rfl⟩
      rw [Nat.sub_self, lts]
      exact h15
theorem one_n0 : ¬ (1 : Int32) = 0 := by decide
/-- behind the letters: a blank, a letter, a number, a blank, a digit -/
theorem m_ntail (T : mtx V d m el) (h : ab_i V 31 11 = nI p) (hp : p < 900) : ∃ W, nd_tail V = some (bI (bDig el m (bSign el m 32 (bNum el m 2 (bLet el m (bSign el m 32 (true, p)))))).1, W) ∧ pfr V W ∧ ab_i W 31 11 = nI (bDig el m (bSign el m 32 (bNum el m 2 (bLet el m (bSign el m 32 (true, p)))))).2 ∧ ((bDig el m (bSign el m 32 (bNum el m 2 (bLet el m (bSign el m 32 (true, p)))))).1 = true → ab_i W 41 0 = el (p + 1) - 97 ∧ ab_i W 41 1 = nI (nvN el ((bNum el m 2 (true, p + 2)).2 - (p + 2)) (p + 2) 0) ∧ ab_i W 31 18 = nI (dgv el ((bNum el m 2 (true, p + 2)).2 + 1)) ∧ ab_i W 31 15 = ab_i V 31 15 ∧ ab_i W 31 17 = ab_i V 31 17) := by
  have V0 : ab_i (ab_ip V 31 14 0) 31 11 = nI p := by rw [hi_ip, if_neg (by omega)]; exact h
  have A0 : pfr V (ab_ip V 31 14 0) := pfr_ip (by omega)
  have T0 := mtx.pfr A0 T
  obtain ⟨W1, a1, a2, a3, a4⟩ := m_takes T0 V0 (by omega) (c := 32) (by decide)
  have T1 := mtx.pfr a2 T0
  unfold nd_tail ab_let
  dsimp only
  rw [a1, Option.bind_some]
  by_cases s1 : (bSign el m 32 (true, p)).1 = true
  rotate_left
  · have e : bDig el m (bSign el m 32 (bNum el m 2 (bLet el m (bSign el m 32 (true, p))))) = bSign el m 32 (true, p) := by
      rw [bLet_f el m s1, bNum_f el m 2 s1, bSign_f el m 32 s1, bDig_f el m s1]
    rw [e]
    have e0 : (bSign el m 32 (true, p)).1 = false := by simpa using s1
    rw [e0, bI_f]
    exact ⟨W1, if_pos rfl, A0.trans a2, a3, fun x => by cases x⟩
  have st1 := (bSign_t el m s1).2.2.2
  rw [rT_t s1] at a3 ⊢
  rw [st1] at a3 ⊢
  have st1 : ((true, p) : rT).2 + 1 = p + 1 := rfl
  rw [st1] at a3 ⊢
  have e14 : ab_i W1 31 14 = nI 0 := by rw [a4 31 14 (by omega), hi_ip, if_pos ⟨rfl, rfl⟩]; rfl
  obtain ⟨W2, b1, b2, b3, b4⟩ := m_mark T1 a3 (by omega) (t := 0) (by decide) e14
  have T2 := mtx.pfr b2 T1
  rw [show bI ((true, p + 1) : rT).1 = 1 from rfl, if_neg one_n0, b1, Option.bind_some]
  by_cases s2 : (bLet el m (true, p + 1)).1 = true
  rotate_left
  · have e : bDig el m (bSign el m 32 (bNum el m 2 (bLet el m (true, p + 1)))) = bLet el m (true, p + 1) := by
      rw [bNum_f el m 2 s2, bSign_f el m 32 s2, bDig_f el m s2]
    rw [e]
    have e0 : (bLet el m (true, p + 1)).1 = false := by simpa using s2
    rw [e0, bI_f]
    exact ⟨W2, if_pos rfl, (A0.trans a2).trans b2, b3, fun x => by cases x⟩
  obtain ⟨b5, b6, b7⟩ := b4 s2
  have lt2 : (bLet el m (true, p + 1)).2 = p + 2 := by
    unfold bLet at s2 ⊢
    rw [if_pos (show ((true, p + 1) : rT).1 = true from rfl)] at s2 ⊢
    split at s2
    · rw [if_pos ‹_›]
    · cases s2
  rw [rT_t s2, lt2] at b3 ⊢
  obtain ⟨W3, c1, c2, c3, c4⟩ := m_number T2 b3 (by omega) (t := 1) (by decide) b5 (k := 2) (by decide) (by decide)
  have T3 := mtx.pfr c2 T2
  rw [show nI 2 = (2 : Int32) from rfl] at c1
  rw [show bI ((true, p + 2) : rT).1 = 1 from rfl, if_neg one_n0, c1, Option.bind_some]
  have nr := bNum_r el m (k := 2) (by decide) (true, p + 2)
  have nr0 : ((true, p + 2) : rT).2 = p + 2 := rfl
  by_cases s3 : (bNum el m 2 (true, p + 2)).1 = true
  rotate_left
  · have e : bDig el m (bSign el m 32 (bNum el m 2 (true, p + 2))) = bNum el m 2 (true, p + 2) := by
      rw [bSign_f el m 32 s3, bDig_f el m s3]
    rw [e]
    have e0 : (bNum el m 2 (true, p + 2)).1 = false := by simpa using s3
    rw [e0, bI_f]
    exact ⟨W3, if_pos rfl, ((A0.trans a2).trans b2).trans c2, c3, fun x => by cases x⟩
  obtain ⟨c5, c6, c7, c8⟩ := c4 s3
  obtain ⟨q, hq⟩ : ∃ q, q = (bNum el m 2 (true, p + 2)).2 := ⟨_, rfl⟩
  rw [rT_t s3, ← hq] at c3 ⊢
  rw [← hq] at c6 nr
  obtain ⟨W4, d1, d2, d3, d4⟩ := m_takes T3 c3 (show q < 2000 by omega) (c := 32) (by decide)
  have T4 := mtx.pfr d2 T3
  rw [show bI ((true, q) : rT).1 = 1 from rfl, if_neg one_n0, d1, Option.bind_some]
  by_cases s4 : (bSign el m 32 (true, q)).1 = true
  rotate_left
  · have e : bDig el m (bSign el m 32 (true, q)) = bSign el m 32 (true, q) := by rw [bDig_f el m s4]
    rw [e]
    have e0 : (bSign el m 32 (true, q)).1 = false := by simpa using s4
    rw [e0, bI_f]
    exact ⟨W4, if_pos rfl, (((A0.trans a2).trans b2).trans c2).trans d2, d3, fun x => by cases x⟩
  have st4 := (bSign_t el m s4).2.2.2
  rw [rT_t s4, st4] at d3 ⊢
  have st4 : ((true, q) : rT).2 + 1 = q + 1 := rfl
  rw [st4] at d3 ⊢
  have f14 : ab_i W4 31 14 = nI 2 := by rw [d4 31 14 (by omega)]; exact c5
  obtain ⟨W5, f1, f2, f3, f4⟩ := m_number T4 d3 (by omega) (t := 2) (by decide) f14 (k := 1) (by decide) (by decide)
  rw [show nI 1 = (1 : Int32) from rfl] at f1
  rw [bNum_1] at f1 f3 f4
  rw [show bI ((true, q + 1) : rT).1 = 1 from rfl, if_neg one_n0, f1, Option.bind_some]
  by_cases s5 : (bDig el m (true, q + 1)).1 = true
  rotate_left
  · have e0 : (bDig el m (true, q + 1)).1 = false := by simpa using s5
    rw [e0, bI_f]
    exact ⟨W5, if_pos rfl, ((((A0.trans a2).trans b2).trans c2).trans d2).trans f2, f3, fun x => by cases x⟩
  obtain ⟨f5, f6, f7, f8⟩ := f4 s5
  have dq : (bDig el m (true, q + 1)).2 = q + 2 := by
    unfold bDig at s5 ⊢
    rw [if_pos (show ((true, q + 1) : rT).1 = true from rfl)] at s5 ⊢
    split at s5
    · rw [if_pos ‹_›]
    · cases s5
  have f6 : ab_i W5 41 2 = nI (dgv el (q + 1)) := by
    rw [f6, dq, show q + 2 - (q + 1) = 0 + 1 by omega, nvN, nvN, Nat.mul_zero, Nat.zero_add]
  have A5 := ((((A0.trans a2).trans b2).trans c2).trans d2).trans f2
  have e16 : ab_r W5 31 16 = some 41 := by rw [A5.2.2.1]; exact T.1 16
  rw [s5, bI_t, if_neg one_n0, e16, Option.bind_some, shp_41, if_pos (by decide), lit_c2, f6]
  have o : ∀ r j, ¬ (r = 31 ∧ j = 18) → ab_i (ab_ip W5 31 18 (nI (dgv el (q + 1)))) r j = ab_i W5 r j := fun r j z => by rw [hi_ip, if_neg z]
  refine ⟨_, rfl, A5.trans (pfr_ip (by omega)), (o 31 11 (by omega)).trans f3, fun _ => ⟨?_, ?_, ?_, ?_, ?_⟩⟩
  · rw [o 41 0 (by omega), f8 41 0 (by omega) (by omega), d4 41 0 (by omega), c8 41 0 (by omega) (by omega)]; exact b6
  · rw [o 41 1 (by omega), f8 41 1 (by omega) (by omega), d4 41 1 (by omega)]; exact c6
  · rw [hi_ip, if_pos ⟨rfl, rfl⟩]
  · rw [o 31 15 (by omega), f8 31 15 (by omega) (by omega), d4 31 15 (by omega), c8 31 15 (by omega) (by omega), b7 31 15 (by omega) (by omega), a4 31 15 (by omega), hi_ip, if_neg (by omega)]
  · rw [o 31 17 (by omega), f8 31 17 (by omega) (by omega), d4 31 17 (by omega), c8 31 17 (by omega) (by omega), b7 31 17 (by omega) (by omega), a4 31 17 (by omega), hi_ip, if_neg (by omega)]
end
end PRN
