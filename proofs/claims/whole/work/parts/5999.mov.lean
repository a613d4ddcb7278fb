section MOV
/-! first lists with their nails: nails, how many deeds, the first and the second -/
abbrev mvT : Type := Nat × Nat × Nat × Nat
def mco (m : mvT) : Nat := 100 * m.1 + 10 * (if m.2.1 = 0 then 9 else m.2.2.1) + (if m.2.1 = 2 then m.2.2.2 else 9)
def mset (many a b : Nat) : Nat → Nat → List mvT
  | 0, _ => []
  | c + 1, k => (k, many, a, b) :: mset many a b c (k + 1)
def mv1 : Nat → Nat → List mvT
  | 0, _ => []
  | c + 1, a => mset 1 a 0 2 0 ++ mv1 c (a + 1)
def mv2b (a : Nat) : Nat → Nat → List mvT
  | 0, _ => []
  | c + 1, b => (if a = b then [] else mset 2 a b 4 0) ++ mv2b a c (b + 1)
def mv2 (N : Nat) : Nat → Nat → List mvT
  | 0, _ => []
  | c + 1, a => mv2b a N 0 ++ mv2 N c (a + 1)
def mvl (N : Nat) : List mvT := mset 0 0 0 1 0 ++ (mv1 N 0 ++ mv2 N N 0)
theorem mvl_len : ∀ N, N < 9 → (mvl N).length ≤ 241 := by decide +kernel
def mok (N : Nat) (m : mvT) : Bool := decide (m.1 < 4) && ((decide (m.2.1 = 0) && decide (m.1 = 0)) || (decide (m.2.1 = 1) && decide (m.2.2.1 < N)) || (decide (m.2.1 = 2) && decide (m.2.2.1 < N) && decide (m.2.2.2 < N)))
theorem mvl_ok : ∀ N, N < 9 → (mvl N).all (mok N) = true := by decide +kernel
/-- the class's list of moves -/
def mvh (U : ab_HP) (L : List mvT) : Prop := ab_i U 0 8 = nI L.length ∧ ∀ j m, L[j]? = some m → ab_i U 13 j = nI (mco m)
def oml (h w : ab_HP) : Prop := w.1 = h.1 ∧ (∀ r k, r ≠ 13 → ¬ (r = 0 ∧ k = 8) → ab_i w r k = ab_i h r k) ∧ (∀ r k, ab_r w r k = ab_r h r k) ∧ ∀ r k, ab_l w r k = ab_l h r k
theorem oml_refl (h : ab_HP) : oml h h := ⟨rfl, fun _ _ _ _ => rfl, fun _ _ => rfl, fun _ _ => rfl⟩
theorem oml.trans {a b c : ab_HP} (H : oml a b) (G : oml b c) : oml a c := ⟨G.1.trans H.1, fun r k q q2 => (G.2.1 r k q q2).trans (H.2.1 r k q q2), fun r k => (G.2.2.1 r k).trans (H.2.2.1 r k), fun r k => (G.2.2.2 r k).trans (H.2.2.2 r k)⟩
theorem oml.hm {h w : ab_HP} (H : oml h w) : hm h w := ⟨H.1, fun r k q => H.2.1 r k (by omega) (by omega), fun r k _ _ _ => H.2.2.1 r k, H.2.2.2⟩
theorem c_mpush {U : ab_HP} (hc : cp U) {L : List mvT} (H : mvh U L) (hL : L.length < 241) (m : mvT) : ∃ W, f_X11_store (some 13) (ab_i U 0 8) (nI (mco m)) U = some W ∧ mvh (ab_ip W 0 8 (ab_i W 0 8 + 1)) (L ++ [m]) ∧ oml U (ab_ip W 0 8 (ab_i W 0 8 + 1)) := by
  have q : ab_in (nI L.length) 241 = true := in_nI (by omega) (by decide)
  have qc : (nI L.length).toNatClampNeg = L.length := nI_clamp (by omega)
  have h2 : ¬ Int32.ofNat 241 ≤ nI L.length := nI_ge (b := 241) (by omega) (by decide)
  unfold f_X11_store
  rw [H.1]
  simp only [nI_lt0 (show L.length < 2 ^ 31 by omega), if_false, shp_2, shp_4, shp_6, shp_8, shp_9, shp_10, shp_11, shp_12, shp_13, shp_14, shp_32, shp_33, shp_34, shp_35, shp_36, shp_37, shp_38, shp_39, shp_40, shp_41, shp_42, shp_43, shp_44, shp_45, shp_46, shp_47, shp_48, shp_49, Option.bind_some, ab_let, Option.elim_some, Option.elim_none, h2, q, if_true, qc]
  have e8 : ab_i (ab_ip U 13 L.length (nI (mco m))) 0 8 = nI L.length := by rw [hi_ip, if_neg (by omega)]; exact H.1
  refine ⟨_, rfl, ⟨?_, fun j x hx => ?_⟩, rfl, fun r k h1 h3 => ?_, fun _ _ => rfl, fun _ _ => rfl⟩
  · rw [hi_ip, if_pos ⟨rfl, rfl⟩, e8, nI_1, List.length_append]
    rfl
  · rw [hi_ip, if_neg (by omega), hi_ip]
    by_cases g : j = L.length
    · subst g
      rw [List.getElem?_append_right (Nat.le_refl _), Nat.sub_self] at hx
      have hx : some m = some x := hx
      cases hx
      rw [if_pos ⟨rfl, rfl⟩]
    · have hj : j < (L ++ [m]).length := by
        rcases Nat.lt_or_ge j (L ++ [m]).length with q | q
        · exact q
        · rw [List.getElem?_eq_none q] at hx; cases hx
      rw [List.length_append] at hj
      have hj : j < L.length + 1 := hj
      rw [if_neg (by omega)]
      rw [List.getElem?_append_left (by omega)] at hx
      exact H.2 j x hx
  · rw [hi_ip, if_neg h3, hi_ip, if_neg (by omega)]
theorem mset_len (many a b : Nat) : ∀ c k, (mset many a b c k).length = c
  | 0, _ => rfl
  | c + 1, k => by rw [mset, List.length_cons, mset_len many a b c (k + 1)]
/-- a list's moves, for a pair of digits -/
theorem c_madd {many a b : Nat} {i1 i2 : Int32} {sets : Nat} (h1 : nI (if many = 0 then 9 else a) = i1) (h2 : nI (if many = 2 then b else 9) = i2) (hs : sets ≤ 4) : ∀ (c k : Nat) (U : ab_HP) (L : List mvT), k + c = sets → cp U → mvh U L → L.length + c ≤ 241 → ∀ f, c < f → ∃ W, f_X11_addMoves_l3 0 f i1 i2 (nI sets) (nI k) U = some W ∧ mvh W (L ++ mset many a b c k) ∧ oml U W
  | 0, k, U, L, e, hc, H, hL, f + 1, _ => by
    rw [f_X11_addMoves_l3, if_pos (nI_le (by omega) (by omega))]
    exact ⟨U, rfl, by rw [mset, List.append_nil]; exact H, oml_refl U⟩
  | c + 1, k, U, L, e, hc, H, hL, f + 1, hf => by
    have q : ¬ nI sets ≤ nI k := nI_ge (by omega) (by omega)
    obtain ⟨W, w1, w2, w3⟩ := c_mpush hc H (by omega) (k, many, a, b)
    obtain ⟨X, x1, x2, x3⟩ := c_madd h1 h2 hs c (k + 1) _ (L ++ [(k, many, a, b)]) (by omega) (w3.hm.cp hc) w2 (by rw [List.length_append]; show L.length + 1 + c ≤ 241; omega) f (by omega)
    have ev : (((100 : Int32) * nI k) + ((10 : Int32) * i1)) + i2 = nI (mco (k, many, a, b)) := by
      rw [← h1, ← h2, n_lit 100, n_lit 10, nI_mul, nI_mul, nI_add, nI_add]
      rfl
    rw [f_X11_addMoves_l3, if_neg q, ev]
    simp only [hc 0 0 1 rfl, hc 0 1 3 rfl, hc 0 2 5 rfl, hc 0 3 7 rfl, hc 0 4 11 rfl, hc 0 5 12 rfl, hc 0 6 13 rfl, hc 0 7 14 rfl, hc 1 0 2 rfl, hc 3 0 4 rfl, hc 5 0 6 rfl, hc 7 0 8 rfl, hc 7 1 9 rfl, hc 7 2 10 rfl, w1, Option.bind_some, ab_let, Option.elim_some, Option.elim_none, nI_1]
    refine ⟨X, x1, ?_, w3.trans x3⟩
    rw [mset]
    rw [List.append_assoc] at x2
    exact x2
  | _, _, _, _, _, _, _, _, 0, h => absurd h (Nat.not_lt_zero _)
theorem c_mv2b {N : Nat} (hN : N ≤ 8) {a : Nat} (ha : a < N) (k43 : Int32 → ab_HP → Option ab_HP) : ∀ (c b : Nat) (U : ab_HP) (L : List mvT), b + c = N → cp U → ab_i U 1 1 = nI N → mvh U L → L.length + (mv2b a c b).length ≤ 241 → ∀ f, c < f → ∃ W, f_X11_listMoves_l56 k43 0 f (nI a) (nI b) U = k43 (nI (a + 1)) W ∧ mvh W (L ++ mv2b a c b) ∧ oml U W
  | 0, b, U, L, e, hc, h1, H, hL, f + 1, _ => by
    rw [f_X11_listMoves_l56]
    simp only [hc 0 0 1 rfl, hc 0 1 3 rfl, hc 0 2 5 rfl, hc 0 3 7 rfl, hc 0 4 11 rfl, hc 0 5 12 rfl, hc 0 6 13 rfl, hc 0 7 14 rfl, hc 1 0 2 rfl, hc 3 0 4 rfl, hc 5 0 6 rfl, hc 7 0 8 rfl, hc 7 1 9 rfl, hc 7 2 10 rfl, Option.bind_some, ab_let, Option.elim_some, Option.elim_none, h1]
    rw [if_pos (nI_le (by omega) (by omega)), nI_1]
    exact ⟨U, rfl, by rw [mv2b, List.append_nil]; exact H, oml_refl U⟩
  | c + 1, b, U, L, e, hc, h1, H, hL, f + 1, hf => by
    have q : ¬ nI N ≤ nI b := nI_ge (by omega) (by omega)
    rw [mv2b, List.length_append] at hL
    rw [f_X11_listMoves_l56, mv2b]
    simp only [hc 0 0 1 rfl, hc 0 1 3 rfl, hc 0 2 5 rfl, hc 0 3 7 rfl, hc 0 4 11 rfl, hc 0 5 12 rfl, hc 0 6 13 rfl, hc 0 7 14 rfl, hc 1 0 2 rfl, hc 3 0 4 rfl, hc 5 0 6 rfl, hc 7 0 8 rfl, hc 7 1 9 rfl, hc 7 2 10 rfl, Option.bind_some, ab_let, Option.elim_some, Option.elim_none, h1, q, if_false, nI_eq (show b < 2 ^ 31 by omega) (show a < 2 ^ 31 by omega), nI_1]
    by_cases g : a = b
    · rw [if_pos g] at hL
      simp only [g, if_true, List.nil_append]
      subst g
      exact c_mv2b hN ha k43 c (a + 1) U L (by omega) hc h1 H (by simpa using hL) f (by omega)
    · have g2 : ¬ b = a := fun x => g x.symm
      rw [if_neg g, mset_len] at hL
      simp only [g, g2, if_false]
      obtain ⟨W, w1, w2, w3⟩ := c_madd (many := 2) (a := a) (b := b) (i1 := nI a) (i2 := nI b) (sets := 4) rfl rfl (by decide) 4 0 U L (by omega) hc H (by omega) 1000 (by omega)
      obtain ⟨X, x1, x2, x3⟩ := c_mv2b hN ha k43 c (b + 1) W (L ++ mset 2 a b 4 0) (by omega) (w3.hm.cp hc) ((w3.2.1 1 1 (by decide) (by omega)).trans h1) w2 (by rw [List.length_append, mset_len]; omega) f (by omega)
      rw [show nI 4 = (4 : Int32) from rfl, show nI 0 = (0 : Int32) from rfl] at w1
      have w1 : f_X11_addMoves 0 (nI a) (nI b) 4 U = some W := by rw [f_X11_addMoves]; exact w1
      simp only [w1, Option.bind_some]
      exact ⟨X, x1, by rw [← List.append_assoc]; exact x2, w3.trans x3⟩
  | _, _, _, _, _, _, _, _, _, 0, h => absurd h (Nat.not_lt_zero _)
theorem c_mv2 {N : Nat} (hN : N ≤ 8) : ∀ (c a : Nat) (U : ab_HP) (L : List mvT), a + c = N → cp U → ab_i U 1 1 = nI N → mvh U L → L.length + (mv2 N c a).length ≤ 241 → ∀ f, c < f → ∃ W, f_X11_listMoves_l43 0 f (nI a) U = some W ∧ mvh W (L ++ mv2 N c a) ∧ oml U W
  | 0, a, U, L, e, hc, h1, H, hL, f + 1, _ => by
    rw [f_X11_listMoves_l43]
    simp only [hc 0 0 1 rfl, hc 0 1 3 rfl, hc 0 2 5 rfl, hc 0 3 7 rfl, hc 0 4 11 rfl, hc 0 5 12 rfl, hc 0 6 13 rfl, hc 0 7 14 rfl, hc 1 0 2 rfl, hc 3 0 4 rfl, hc 5 0 6 rfl, hc 7 0 8 rfl, hc 7 1 9 rfl, hc 7 2 10 rfl, Option.bind_some, ab_let, Option.elim_some, Option.elim_none, h1]
    rw [if_pos (nI_le (by omega) (by omega))]
    exact ⟨U, rfl, by rw [mv2, List.append_nil]; exact H, oml_refl U⟩
  | c + 1, a, U, L, e, hc, h1, H, hL, f + 1, hf => by
    have q : ¬ nI N ≤ nI a := nI_ge (by omega) (by omega)
    rw [mv2, List.length_append] at hL
    obtain ⟨W, w1, w2, w3⟩ := c_mv2b hN (show a < N by omega) (f_X11_listMoves_l43 0 f) N 0 U L (by omega) hc h1 H (by omega) 1000 (by omega)
    obtain ⟨X, x1, x2, x3⟩ := c_mv2 hN c (a + 1) W (L ++ mv2b a N 0) (by omega) (w3.hm.cp hc) ((w3.2.1 1 1 (by decide) (by omega)).trans h1) w2 (by rw [List.length_append]; omega) f (by omega)
    rw [show nI 0 = (0 : Int32) from rfl] at w1
    rw [f_X11_listMoves_l43, mv2]
    simp only [hc 0 0 1 rfl, hc 0 1 3 rfl, hc 0 2 5 rfl, hc 0 3 7 rfl, hc 0 4 11 rfl, hc 0 5 12 rfl, hc 0 6 13 rfl, hc 0 7 14 rfl, hc 1 0 2 rfl, hc 3 0 4 rfl, hc 5 0 6 rfl, hc 7 0 8 rfl, hc 7 1 9 rfl, hc 7 2 10 rfl, Option.bind_some, ab_let, Option.elim_some, Option.elim_none, h1, q, if_false]
    exact ⟨X, w1.trans x1, by rw [← List.append_assoc]; exact x2, w3.trans x3⟩
  | _, _, _, _, _, _, _, _, _, 0, h => absurd h (Nat.not_lt_zero _)
theorem c_mv1 {N : Nat} (hN : N ≤ 8) : ∀ (c a : Nat) (U : ab_HP) (L : List mvT), a + c = N → cp U → ab_i U 1 1 = nI N → mvh U L → L.length + ((mv1 c a).length + (mv2 N N 0).length) ≤ 241 → ∀ f, c < f → ∃ W, f_X11_listMoves_l16 0 f (nI a) U = some W ∧ mvh W (L ++ (mv1 c a ++ mv2 N N 0)) ∧ oml U W
  | 0, a, U, L, e, hc, h1, H, hL, f + 1, _ => by
    obtain ⟨W, w1, w2, w3⟩ := c_mv2 hN N 0 U L (by omega) hc h1 H (by omega) 1000 (by omega)
    rw [show nI 0 = (0 : Int32) from rfl] at w1
    rw [f_X11_listMoves_l16]
    simp only [hc 0 0 1 rfl, hc 0 1 3 rfl, hc 0 2 5 rfl, hc 0 3 7 rfl, hc 0 4 11 rfl, hc 0 5 12 rfl, hc 0 6 13 rfl, hc 0 7 14 rfl, hc 1 0 2 rfl, hc 3 0 4 rfl, hc 5 0 6 rfl, hc 7 0 8 rfl, hc 7 1 9 rfl, hc 7 2 10 rfl, Option.bind_some, ab_let, Option.elim_some, Option.elim_none, h1]
    rw [if_pos (nI_le (by omega) (by omega))]
    exact ⟨W, w1, w2, w3⟩
  | c + 1, a, U, L, e, hc, h1, H, hL, f + 1, hf => by
    have q : ¬ nI N ≤ nI a := nI_ge (by omega) (by omega)
    rw [mv1, List.length_append, mset_len] at hL
    obtain ⟨W, w1, w2, w3⟩ := c_madd (many := 1) (a := a) (b := 0) (i1 := nI a) (i2 := 9) (sets := 2) rfl rfl (by decide) 2 0 U L (by omega) hc H (by omega) 1000 (by omega)
    rw [show nI 2 = (2 : Int32) from rfl, show nI 0 = (0 : Int32) from rfl] at w1
    have w1 : f_X11_addMoves 0 (nI a) 9 2 U = some W := by rw [f_X11_addMoves]; exact w1
    obtain ⟨X, x1, x2, x3⟩ := c_mv1 hN c (a + 1) W (L ++ mset 1 a 0 2 0) (by omega) (w3.hm.cp hc) ((w3.2.1 1 1 (by decide) (by omega)).trans h1) w2 (by rw [List.length_append, mset_len]; omega) f (by omega)
    rw [f_X11_listMoves_l16, mv1]
    simp only [hc 0 0 1 rfl, hc 0 1 3 rfl, hc 0 2 5 rfl, hc 0 3 7 rfl, hc 0 4 11 rfl, hc 0 5 12 rfl, hc 0 6 13 rfl, hc 0 7 14 rfl, hc 1 0 2 rfl, hc 3 0 4 rfl, hc 5 0 6 rfl, hc 7 0 8 rfl, hc 7 1 9 rfl, hc 7 2 10 rfl, Option.bind_some, ab_let, Option.elim_some, Option.elim_none, h1, q, if_false, w1, nI_1]
    exact ⟨X, x1, by rw [List.append_assoc, ← List.append_assoc L]; exact x2, w3.trans x3⟩
  | _, _, _, _, _, _, _, _, _, 0, h => absurd h (Nat.not_lt_zero _)
/-- the class lists all moves -/
theorem c_moves {N : Nat} (hN : N ≤ 8) {U : ab_HP} (hc : cp U) (h1 : ab_i U 1 1 = nI N) : ∃ W, f_X11_listMoves 0 U = some W ∧ mvh W (mvl N) ∧ oml U W := by
  have hl := mvl_len N (by omega)
  unfold mvl at hl
  rw [List.length_append, List.length_append, mset_len] at hl
  have H0 : mvh (ab_ip U 0 8 0) [] := ⟨by rw [hi_ip, if_pos ⟨rfl, rfl⟩]; rfl, fun j m hm => by cases hm⟩
  have A0 : oml U (ab_ip U 0 8 0) := ⟨rfl, fun r k _ q => by rw [hi_ip, if_neg q], fun _ _ => rfl, fun _ _ => rfl⟩
  have hc0 := A0.hm.cp hc
  obtain ⟨W, w1, w2, w3⟩ := c_madd (many := 0) (a := 0) (b := 0) (i1 := 9) (i2 := 9) (sets := 1) rfl rfl (by decide) 1 0 (ab_ip U 0 8 0) [] (by omega) hc0 H0 (by show 0 + 1 ≤ 241; omega) 1000 (by omega)
  rw [show nI 1 = (1 : Int32) from rfl, show nI 0 = (0 : Int32) from rfl] at w1
  have w1 : f_X11_addMoves 0 9 9 1 (ab_ip U 0 8 0) = some W := by rw [f_X11_addMoves]; exact w1
  obtain ⟨X, x1, x2, x3⟩ := c_mv1 hN N 0 W ([] ++ mset 0 0 0 1 0) (by omega) (w3.hm.cp hc0) ((w3.2.1 1 1 (by decide) (by omega)).trans ((A0.2.1 1 1 (by decide) (by omega)).trans h1)) w2 (by rw [List.nil_append, mset_len]; omega) 1000 (by omega)
  rw [show nI 0 = (0 : Int32) from rfl] at x1
  unfold f_X11_listMoves
  simp only [ab_let, w1, Option.bind_some]
  exact ⟨X, x1, x2, (A0.trans w3).trans x3⟩
end MOV
