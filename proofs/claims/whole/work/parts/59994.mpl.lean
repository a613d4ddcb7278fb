section MPL
abbrev pST : Type := Option (Int32 × Int32)
def pstp (v t : Int32) (st : pST) : pST := match st with
  | none => some (v, t)
  | some x => if x.1 < v then some (v, t) else some x
def mpi (g V : ab_HP) (d : Nat) (st : pST) : Prop := gm g V ∧ mp V ∧ ab_i V 31 38 = nI d ∧ (st = none → ab_i V 31 35 = 0) ∧ ∀ x, st = some x → ab_i V 31 35 = 1 ∧ ab_l V 31 36 = x.1.toInt64 ∧ ab_i V 31 37 = x.2
theorem n64_add {a b : Int32} (h1 : -1000000 ≤ a.toInt ∧ a.toInt ≤ 1000000) (h2 : -1000000 ≤ b.toInt ∧ b.toInt ≤ 1000000) : a.toInt64 + b.toInt64 = (a + b).toInt64 := by
  apply Int64.toInt_inj.mp
  rw [Int64.toInt_add, Int32.toInt_toInt64, Int32.toInt_toInt64, Int32.toInt_toInt64, n_add (by omega) (by omega)]
  rw [Int.bmod_def]
  split <;> omega
theorem m_wsm {V : ab_HP} (hp : mp V) {d : Nat} (hd : d < 8) (h38 : ab_i V 31 38 = nI d) {el : Nat → Int32} (he : ∀ k, k < 10 → ab_i V 38 (100 * d + k) = el k ∧ -999 ≤ (el k).toInt ∧ (el k).toInt ≤ 999) (so : Int32) : ∀ (c k : Nat) (a : Int32), k + c = 10 → -(999 * (k : Int)) ≤ a.toInt → a.toInt ≤ 999 * (k : Int) → ∀ f, c < f → f_X12_worthOf_l5 31 f so a.toInt64 (nI k) V = some ((wsm el so c k a).toInt64)
  | 0, k, a, e, _, _, f + 1, _ => by
    have e : k = 10 := by omega
    subst e
    rw [f_X12_worthOf_l5, if_pos (show (10 : Int32) ≤ nI 10 by decide), wsm]
  | c + 1, k, a, e, l1, l2, f + 1, hf => by
    have q : ¬ (10 : Int32) ≤ nI k := nI_ge (b := 10) (by omega) (by decide)
    have a1 : (100 : Int32) * nI d + nI k = nI (100 * d + k) := by rw [n_lit 100, nI_mul, nI_add]
    have b1 : ab_in (nI (100 * d + k)) 800 = true := in_nI (by omega) (by decide)
    have c1 : (nI (100 * d + k)).toNatClampNeg = 100 * d + k := nI_clamp (by omega)
    have hk := he k (by omega)
    have sa : (a + el k).toInt = a.toInt + (el k).toInt := n_add (by omega) (by omega)
    have ih1 := m_wsm hp hd h38 he so c (k + 1) (a + el k) (by omega) (by omega) (by omega) f (by omega)
    have ih2 := m_wsm hp hd h38 he so c (k + 1) a (by omega) (by omega) (by omega) f (by omega)
    rw [f_X12_worthOf_l5, if_neg q, wsm]
    simp only [bt_has1 so (show k < 32 by omega), Option.bind_some, ab_let, Option.elim_some, Option.elim_none, hp 6, mp_0, mp_1, mp_2, mp_3, mp_4, mp_5, mp_6, mp_7, mp_8, mp_16, mp_19, mp_20, mp_21, mp_22, mp_23, mp_32, mp_39, shp_2, shp_4, shp_6, shp_8, shp_9, shp_10, shp_11, shp_12, shp_13, shp_14, shp_32, shp_33, shp_34, shp_35, shp_36, shp_37, shp_38, shp_39, shp_40, shp_41, shp_42, shp_43, shp_44, shp_45, shp_46, shp_47, shp_48, shp_49, h38, a1, b1, c1, if_true, hk.1, n64_add (a := a) (b := el k) (by omega) (by omega), nI_1, ih1, Int64.add_zero, ih2]
    rcases Bool.eq_false_or_eq_true (bt so k) with hb | hb
    · simp only [hb, if_true]
    · simp only [hb, Bool.false_eq_true, if_false]
  | _, _, _, _, _, _, 0, h => absurd h (Nat.not_lt_zero _)
theorem m_wth {V : ab_HP} (hp : mp V) {d : Nat} (hd : d < 8) (h38 : ab_i V 31 38 = nI d) {el : Nat → Int32} (he : ∀ k, k < 10 → ab_i V 38 (100 * d + k) = el k ∧ -999 ≤ (el k).toInt ∧ (el k).toInt ≤ 999) (so : Int32) : f_X12_worthOf 31 so V = some ((wth el so).toInt64) := by
  have := m_wsm hp hd h38 he so 10 0 0 (by omega) (by decide) (by decide) 1000 (by omega)
  rw [show (0 : Int32).toInt64 = 0 from rfl, show nI 0 = (0 : Int32) from rfl] at this
  rw [f_X12_worthOf]
  exact this
def ptl (i2 : Int32) (m : mvT) : Int32 := if i2 < 0 then nI (mco m) else i2
/-- one set of nails of one list tried, whatever comes behind it -/
theorem m_tb {g : ab_HP} {N : Nat} (ht : tw N (ab_i g 32)) {d : Nat} (self : Nat → Int32 → Int32 → Int32 → Int32 → ab_HP → Option ab_HP) (i1 i2 so c : Int32) {m : mvT} (ok : mok N m = true) (hk : m.1 < 2 ^ m.2.1) {st st' : pST} {V : ab_HP} (M : mpi g V d st) (f : Nat) (tail : ∀ W, mpi g W d st → ab_i W 31 26 = (eff (ab_i g 32) m (so, c)).1 → ab_i W 31 27 = (eff (ab_i g 32) m (so, c)).2 → ∃ X, (if i1 ≤ 1 then ((f_X12_worthOf 31 (ab_i W 31 26) W).bind fun w20 =>
    if (ab_i W 31 35) = 0 then (f_X12_tries_b152 (f_X12_tries_l3 self 31 f) self 31 i1 i2 (nI m.2.1) (nI m.2.2.1) (nI m.2.2.2) so c (nI m.1) (ptl i2 m) w20 W)
    else (if (0 : Int32) < (lg_cmp w20 (ab_l W 31 36)) then (f_X12_tries_b152 (f_X12_tries_l3 self 31 f) self 31 i1 i2 (nI m.2.1) (nI m.2.2.1) (nI m.2.2.2) so c (nI m.1) (ptl i2 m) w20 W)
    else (f_X12_tries_l3 self 31 f i1 i2 (nI m.2.1) (nI m.2.2.1) (nI m.2.2.2) so c ((nI m.1) + (1 : Int32)) W)))
    else ((self 31 (i1 - (1 : Int32)) (ptl i2 m) (ab_i W 31 26) (ab_i W 31 27) W).bind fun w23 =>
    f_X12_tries_l3 self 31 f i1 i2 (nI m.2.1) (nI m.2.2.1) (nI m.2.2.2) so c ((nI m.1) + (1 : Int32)) w23)) = f_X12_tries_l3 self 31 f i1 i2 (nI m.2.1) (nI m.2.2.1) (nI m.2.2.2) so c (nI (m.1 + 1)) X ∧ mpi g X d st') : ∃ X, f_X12_tries_l3 self 31 (f + 1) i1 i2 (nI m.2.1) (nI m.2.2.1) (nI m.2.2.2) so c (nI m.1) V = f_X12_tries_l3 self 31 f i1 i2 (nI m.2.1) (nI m.2.2.1) (nI m.2.2.2) so c (nI (m.1 + 1)) X ∧ mpi g X d st' := by
  have hN := ht.1
  obtain ⟨k1, k2, k3, k4, k5⟩ := mok_e ok
  obtain ⟨B, hp, h38, hn, hs⟩ := M
  have p4 : 2 ^ m.2.1 ≤ 4 := Nat.pow_le_pow_right (n := 2) (by decide) k2
  have q : ¬ nI (2 ^ m.2.1) ≤ nI m.1 := nI_ge hk (by omega)
  obtain ⟨P, hP⟩ : ∃ P, P = ab_ip (ab_ip (ab_ip (ab_ip (ab_ip (ab_ip V 31 24 (nI m.2.1)) 42 0 (nI m.2.2.1)) 42 1 (nI m.2.2.2)) 31 25 (nI m.1)) 31 26 so) 31 27 c := ⟨_, rfl⟩
  have oP : ∀ r j, ¬ (r = 31 ∧ 24 ≤ j ∧ j ≤ 27) → ¬ (r = 42 ∧ j < 2) → ab_i P r j = ab_i V r j := fun r j g1 g2 => by
    rw [hP, hi_ip, if_neg (by omega), hi_ip, if_neg (by omega), hi_ip, if_neg (by omega), hi_ip, if_neg (by omega), hi_ip, if_neg (by omega), hi_ip, if_neg (by omega)]
  have lP : ∀ r j, ab_l P r j = ab_l V r j := fun r j => by rw [hP]; rfl
  have BP0 : gm V P := by
    rw [hP]
    exact (((((gm_ip (by omega)).trans (gm_ip (by omega))).trans (gm_ip (by omega))).trans (gm_ip (by omega))).trans (gm_ip (by omega))).trans (gm_ip (by omega))
  have BP := B.trans BP0
  have hpP := BP0.mp hp
  have p24 : ab_i P 31 24 = nI m.2.1 := by rw [hP, hi_ip, if_neg (by omega), hi_ip, if_neg (by omega), hi_ip, if_neg (by omega), hi_ip, if_neg (by omega), hi_ip, if_neg (by omega), hi_ip, if_pos ⟨rfl, rfl⟩]
  have p25 : ab_i P 31 25 = nI m.1 := by rw [hP, hi_ip, if_neg (by omega), hi_ip, if_neg (by omega), hi_ip, if_pos ⟨rfl, rfl⟩]
  have p26 : ab_i P 31 26 = so := by rw [hP, hi_ip, if_neg (by omega), hi_ip, if_pos ⟨rfl, rfl⟩]
  have p27 : ab_i P 31 27 = c := by rw [hP, hi_ip, if_pos ⟨rfl, rfl⟩]
  have p420 : ab_i P 42 0 = nI m.2.2.1 := by rw [hP, hi_ip, if_neg (by omega), hi_ip, if_neg (by omega), hi_ip, if_neg (by omega), hi_ip, if_neg (by omega), hi_ip, if_pos ⟨rfl, rfl⟩]
  have p421 : ab_i P 42 1 = nI m.2.2.2 := by rw [hP, hi_ip, if_neg (by omega), hi_ip, if_neg (by omega), hi_ip, if_neg (by omega), hi_ip, if_pos ⟨rfl, rfl⟩]
  have mlP : ml P m.2.1 (mvli m) := by
    refine ⟨by omega, p24, fun i hi => ⟨?_, Nat.lt_of_lt_of_le (mvli_lt ok i hi) hN⟩⟩
    unfold mvli
    rcases (by omega : i = 0 ∨ i = 1) with e | e
    · rw [e, if_pos rfl]; exact p420
    · rw [e, if_neg (by decide)]; exact p421
  have hy : y_of P = (so, c, ab_i P 31 28, ab_i P 31 29, ab_i P 45, ab_i P 43, ab_i P 44, ab_i P 46) := by unfold y_of; rw [p26, p27]
  have vp := m_pl hpP BP mlP p25 hy
  have ey := eff_y (show m.2.1 ≤ 16 by omega) (ab_i g 32) (so, c) (ab_i P 31 28) (ab_i P 31 29) (ab_i P 45) (ab_i P 43) (ab_i P 44) (ab_i P 46)
  generalize y_pair (ab_i g 32) (mvli m) m.2.1 (nI m.1) (so, c, ab_i P 31 28, ab_i P 31 29, ab_i P 45, ab_i P 43, ab_i P 44, ab_i P 46) = y at vp ey
  have w31 : ∀ j, 30 ≤ j → ab_i (y_put P y) 31 j = ab_i V 31 j := fun j hj => by rw [y_31 _ _ (by omega) (by omega) (by omega) (by omega), oP 31 j (by omega) (by omega)]
  have MW : mpi g (y_put P y) d st := ⟨BP.trans (gm_y P y), hpP, (w31 38 (by omega)).trans h38, fun e => (w31 35 (by omega)).trans (hn e), fun x hx => ⟨(w31 35 (by omega)).trans (hs x hx).1, (lP 31 36).trans (hs x hx).2.1, (w31 37 (by omega)).trans (hs x hx).2.2⟩⟩
  have tl := tail (y_put P y) MW (by rw [y_26]; exact ey.1) (by rw [y_27]; exact ey.2)
  rw [f_X12_tries_l3]
  simp only [shl1 (show m.2.1 ≤ 16 by omega), q, if_false, ab_let, Option.bind_some, ab_let, Option.elim_some, Option.elim_none, hr_ip, hp 19, mp_0, mp_1, mp_2, mp_3, mp_4, mp_5, mp_6, mp_7, mp_8, mp_16, mp_19, mp_20, mp_21, mp_22, mp_23, mp_32, mp_39, shp_2, shp_4, shp_6, shp_8, shp_9, shp_10, shp_11, shp_12, shp_13, shp_14, shp_32, shp_33, shp_34, shp_35, shp_36, shp_37, shp_38, shp_39, shp_40, shp_41, shp_42, shp_43, shp_44, shp_45, shp_46, shp_47, shp_48, shp_49, in_l0, in_l1, in_l2, in_l3, in_l4, in_l5, in_l6, lit_c0, lit_c1, lit_c2, lit_c3, lit_c4, lit_c5, lit_c6, Nat.reduceLT, decide_true, if_true, ← hP, vp]
  by_cases h2 : i2 < 0
  · have et : ptl i2 m = nI (mco m) := if_pos h2
    rw [et] at tl
    rcases (by omega : m.2.1 = 0 ∨ m.2.1 = 1 ∨ m.2.1 = 2) with e | e | e
    · have c0 : (nI m.2.1 ≤ 0) = True := eq_true (by rw [e]; decide)
      have c1 : (nI m.2.1 ≤ 1) = True := eq_true (by rw [e]; decide)
      have t1 : (((100 : Int32) * nI m.1) + ((10 : Int32) * (9 : Int32))) + (9 : Int32) = nI (mco m) := by
        unfold mco
        rw [e, n_lit 100, n_lit 10, n_lit 9, nI_mul, nI_mul, nI_add, nI_add]
        rfl
      have t2 : (((100 : Int32) * nI m.1) + (90 : Int32)) + (9 : Int32) = nI (mco m) := t1
      simp only [h2, c0, c1, if_true, t1, t2]
      exact tl
    · have c0 : (nI m.2.1 ≤ 0) = False := eq_false (by rw [e]; decide)
      have c1 : (nI m.2.1 ≤ 1) = True := eq_true (by rw [e]; decide)
      have t1 : (((100 : Int32) * nI m.1) + ((10 : Int32) * nI m.2.2.1)) + (9 : Int32) = nI (mco m) := by
        unfold mco
        rw [e, n_lit 100, n_lit 10, n_lit 9, nI_mul, nI_mul, nI_add, nI_add]
        rfl
      simp only [h2, c0, c1, if_true, if_false, t1]
      exact tl
    · have c0 : (nI m.2.1 ≤ 0) = False := eq_false (by rw [e]; decide)
      have c1 : (nI m.2.1 ≤ 1) = False := eq_false (by rw [e]; decide)
      have t1 : (((100 : Int32) * nI m.1) + ((10 : Int32) * nI m.2.2.1)) + nI m.2.2.2 = nI (mco m) := by
        unfold mco
        rw [e, n_lit 100, n_lit 10, nI_mul, nI_mul, nI_add, nI_add]
        rfl
      simp only [h2, c0, c1, if_true, if_false, t1]
      exact tl
  · have et : ptl i2 m = i2 := if_neg h2
    rw [et] at tl
    simp only [h2, if_false]
    exact tl
/-- all sets of nails of one list -/
theorem m_try {g : ab_HP} {N d : Nat} {self : Nat → Int32 → Int32 → Int32 → Int32 → ab_HP → Option ab_HP} {i1 i2 so c : Int32} {stp : pST → mvT → pST} (body : ∀ m, mok N m = true → m.1 < 2 ^ m.2.1 → ∀ V st f, mpi g V d st → ∃ X, f_X12_tries_l3 self 31 (f + 1) i1 i2 (nI m.2.1) (nI m.2.2.1) (nI m.2.2.2) so c (nI m.1) V = f_X12_tries_l3 self 31 f i1 i2 (nI m.2.1) (nI m.2.2.1) (nI m.2.2.2) so c (nI (m.1 + 1)) X ∧ mpi g X d (stp st m)) {many a b : Nat} (ok : ∀ k, k < 2 ^ many → mok N (k, many, a, b) = true) (h2 : many ≤ 2) : ∀ (n k : Nat) (V : ab_HP) (st : pST), k + n = 2 ^ many → mpi g V d st → ∀ f, n < f → ∃ X, f_X12_tries_l3 self 31 f i1 i2 (nI many) (nI a) (nI b) so c (nI k) V = some X ∧ mpi g X d ((mset many a b n k).foldl stp st)
  | 0, k, V, st, e, M, f + 1, _ => by
    have p4 : 2 ^ many ≤ 4 := Nat.pow_le_pow_right (n := 2) (by decide) h2
    rw [f_X12_tries_l3]
    simp only [shl1 (show many ≤ 16 by omega)]
    rw [if_pos (nI_le (by omega) (by omega))]
    exact ⟨V, rfl, M⟩
  | n + 1, k, V, st, e, M, f + 1, hf => by
    obtain ⟨X, x1, x2⟩ := body (k, many, a, b) (ok k (by omega)) (by show k < 2 ^ many; omega) V st f M
    obtain ⟨Y, y1, y2⟩ := m_try body ok h2 n (k + 1) X _ (by omega) x2 f (by omega)
    exact ⟨Y, x1.trans y1, y2⟩
  | _, _, _, _, _, _, 0, h => absurd h (Nat.not_lt_zero _)
end MPL
