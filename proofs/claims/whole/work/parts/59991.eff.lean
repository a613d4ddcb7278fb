section EFF
def mvli (m : mvT) : Nat → Nat := fun j => if j = 0 then m.2.2.1 else m.2.2.2
/-- MARKS and COINS behind a move -/
def eff (s : Nat → Int32) (m : mvT) (e : Int32 × Int32) : Int32 × Int32 := ((y_pair s (mvli m) m.2.1 (nI m.1) (e.1, e.2, 0, 0, fun _ => 0, fun _ => 0, fun _ => 0, fun _ => 0)).1, (y_pair s (mvli m) m.2.1 (nI m.1) (e.1, e.2, 0, 0, fun _ => 0, fun _ => 0, fun _ => 0, fun _ => 0)).2.1)
theorem eff_z {m : mvT} (hn : m.2.1 ≤ 16) (s : Nat → Int32) (e : Int32 × Int32) (MD LS : Nat → Int32) : (z_odds s (mvli m) (s 3) m.2.1 m.2.1 (z_evens s (mvli m) (nI m.1) m.2.1 (e.1, e.2, 0, 0, 0, 0, 0, 0, MD, LS))).1 = (eff s m e).1 ∧ (z_odds s (mvli m) (s 3) m.2.1 m.2.1 (z_evens s (mvli m) (nI m.1) m.2.1 (e.1, e.2, 0, 0, 0, 0, 0, 0, MD, LS))).2.1 = (eff s m e).2 := by
  have Z := zr_pair hn s (mvli m) (nI m.1) 0 (zr_0 e.1 e.2 0 (fun _ => 0) (fun _ => 0) (fun _ => 0) (fun _ => 0) MD LS m.2.1)
  exact ⟨Z.1.1, Z.1.2.1⟩
theorem eff_y {m : mvT} (hn : m.2.1 ≤ 16) (s : Nat → Int32) (e : Int32 × Int32) (p u : Int32) (F C A B : Nat → Int32) : (y_pair s (mvli m) m.2.1 (nI m.1) (e.1, e.2, p, u, F, C, A, B)).1 = (eff s m e).1 ∧ (y_pair s (mvli m) m.2.1 (nI m.1) (e.1, e.2, p, u, F, C, A, B)).2.1 = (eff s m e).2 := by
  obtain ⟨y, h1, h2, h3⟩ := sp_zr hn s (mvli m) (nI m.1) e.1 e.2 p u F C A B (fun _ => 0) (fun _ => 0)
  have W := eff_z hn s e (fun _ => 0) (fun _ => 0)
  rw [h1]
  exact ⟨h3.1.1.symm.trans W.1, h3.1.2.1.symm.trans W.2⟩
theorem mok_e {N : Nat} {m : mvT} (h : mok N m = true) : m.1 < 4 ∧ m.2.1 ≤ 2 ∧ (m.2.1 = 0 → m.1 = 0) ∧ (1 ≤ m.2.1 → m.2.2.1 < N) ∧ (m.2.1 = 2 → m.2.2.2 < N) := by
  unfold mok at h
  simp only [Bool.and_eq_true, Bool.or_eq_true, decide_eq_true_eq] at h
  omega
theorem mvli_lt {N : Nat} {m : mvT} (h : mok N m = true) : ∀ j, j < m.2.1 → mvli m j < N := by
  intro j hj
  have := mok_e h
  unfold mvli
  split <;> omega
theorem eff_in {N : Nat} {s : Nat → Int32} (ht : tw N s) {m : mvT} (hm : mok N m = true) {e : Int32 × Int32} (h1 : b10 e.1) (h2 : ∃ c, c ≤ 9999 ∧ e.2 = nI c) : b10 (eff s m e).1 ∧ ∃ c, c ≤ 9999 ∧ (eff s m e).2 = nI c := by
  have Y := y_in_pair ht (n := m.2.1) (li := mvli m) (mvli_lt hm) (nI m.1) (y := (e.1, e.2, 0, 0, fun _ => 0, fun _ => 0, fun _ => 0, fun _ => 0)) h1 h2
  exact ⟨Y.1, Y.2.1⟩
/-- a digit more on the list, or none -/
theorem c_dig {U : ab_HP} {N k : Nat} {s : Nat → Int32} {li : Nat → Nat} (ht : tw N s) (K : kc U N s k li) (hk : k < 16) {x : Nat} (hx : x < 10) (hl : x < N → li k = x) : ∃ o W, f_X9_deedAt 1 (nI x) U = some o ∧ f_X10_add 7 o U = some W ∧ kc W N s (if x < N then k + 1 else k) li ∧ hm U W ∧ ∀ a b, ¬ (a = 7 ∧ b = 5) → ab_i W a b = ab_i U a b := by
  by_cases q : x < N
  · have e := hl q
    obtain ⟨r, W, w1, w2, w3, w4, w5⟩ := kc_add ht K hk (by rw [e]; exact q)
    rw [e] at w1
    rw [if_pos q]
    exact ⟨_, W, w1, w2, w3, w4, w5⟩
  · rw [if_neg q]
    exact ⟨none, U, c_deedAt9f ht.1 (K.2.1.1.1.trans ht.2.1) (by rw [nI_toInt (by omega)]; omega), rfl, K, hm_refl U, fun _ _ _ => rfl⟩
theorem c_pmv {U : ab_HP} {N : Nat} {s : Nat → Int32} (ht : tw N s) (hc : cp U) (hd : td U 1 N s) {m : mvT} (hm' : mok N m = true) (so c : Int32) : ∃ W, f_X11_playMove 0 (nI (mco m)) so c U = some W ∧ hm U W ∧ ab_i W 7 6 = (eff s m (so, c)).1 ∧ ab_i W 7 7 = (eff s m (so, c)).2 ∧ ∀ r k, r ≠ 7 → r ≠ 9 → r ≠ 10 → ab_i W r k = ab_i U r k := by
  have hN := ht.1
  obtain ⟨k1, k2, k3, k4, k5⟩ := mok_e hm'
  obtain ⟨A, hA⟩ : ∃ A, A = (if m.2.1 = 0 then 9 else m.2.2.1) := ⟨_, rfl⟩
  obtain ⟨B, hB⟩ : ∃ B, B = (if m.2.1 = 2 then m.2.2.2 else 9) := ⟨_, rfl⟩
  have hA9 : A < 10 := by rw [hA]; split <;> omega
  have hB9 : B < 10 := by rw [hB]; split <;> omega
  have hM : mco m = 100 * m.1 + 10 * A + B := by rw [hA, hB]; rfl
  have e1 : nI (mco m) / (10 : Int32) = nI (mco m / 10) := by rw [n_lit 10, nI_div (by omega) (by decide)]
  have e2 : nI (mco m / 10) - nI (mco m / 10) / (10 : Int32) * (10 : Int32) = nI A := by
    rw [n_lit 10, nI_mod (by omega) (by decide)]
    congr 1
    omega
  have e3 : nI (mco m) - nI (mco m / 10) * (10 : Int32) = nI B := by
    have := nI_mod (a := mco m) (b := 10) (by omega) (by decide)
    rw [show nI 10 = (10 : Int32) from rfl, e1] at this
    rw [this]
    congr 1
    omega
  have e4 : nI (mco m) / (100 : Int32) = nI m.1 := by
    rw [n_lit 100, nI_div (by omega) (by decide)]
    congr 1
    omega
  obtain ⟨U1, u1, u2, u3, u4⟩ := kc_open hc ht hd (mvli m)
  obtain ⟨o1, U2, v1, v2, v3, v4, v5⟩ := c_dig ht u2 (by decide) hA9 (fun q => by
    unfold mvli
    rw [if_pos rfl, hA, if_neg (fun x => by rw [hA, if_pos x] at q; omega)])
  have kk : (if A < N then 0 + 1 else 0) = (if m.2.1 = 0 then 0 else 1) := by
    by_cases x : m.2.1 = 0
    · rw [if_pos x, if_neg (by rw [hA, if_pos x]; omega)]
    · rw [if_neg x, if_pos (by rw [hA, if_neg x]; exact k4 (by omega))]
  rw [kk] at v3
  obtain ⟨o2, U3, x1, x2, x3, x4, x5⟩ := c_dig ht v3 (by split <;> decide) hB9 (fun q => by
    have m2 : m.2.1 = 2 := by
      rcases Nat.decEq m.2.1 2 with y | y
      · rw [hB, if_neg y] at q; omega
      · exact y
    rw [if_neg (by omega), hB, if_pos m2]
    rfl)
  have kk2 : (if B < N then (if m.2.1 = 0 then 0 else 1) + 1 else (if m.2.1 = 0 then 0 else 1)) = m.2.1 := by
    by_cases x : m.2.1 = 2
    · rw [if_pos (by rw [hB, if_pos x]; exact k5 x), if_neg (by omega), x]
    · rw [if_neg (by rw [hB, if_neg x]; omega)]
      split <;> omega
  rw [kk2] at x3
  obtain ⟨hc3, hd3, hl3, hct3, h43⟩ := x3
  have ce := c_even hc3 hl3 hct3 (nI m.1) (so, c, 0, 0, 0, 0, 0, 0, ab_i U3 9, ab_i U3 10)
  have co := c_odd hc3 hl3 (z_evens s (mvli m) (nI m.1) m.2.1 (so, c, 0, 0, 0, 0, 0, 0, ab_i U3 9, ab_i U3 10))
  rw [h43] at co
  have ez := eff_z (show m.2.1 ≤ 16 by omega) s (so, c) (ab_i U3 9) (ab_i U3 10)
  generalize z_odds s (mvli m) (s 3) m.2.1 m.2.1 (z_evens s (mvli m) (nI m.1) m.2.1 (so, c, 0, 0, 0, 0, 0, 0, ab_i U3 9, ab_i U3 10)) = z at co ez
  refine ⟨z_put U3 z, ?_, ((u3.trans v4).trans x4).trans (hm_z U3 z), ez.1, ez.2, fun r k h1 h2 h3 => ?_⟩
  · have hc1 := u2.1
    have hc2 := v3.1
    unfold f_X11_playMove
    simp only [hc 0 0 1 rfl, hc 0 1 3 rfl, hc 0 2 5 rfl, hc 0 3 7 rfl, hc 0 4 11 rfl, hc 0 5 12 rfl, hc 0 6 13 rfl, hc 0 7 14 rfl, hc 1 0 2 rfl, hc 3 0 4 rfl, hc 5 0 6 rfl, hc 7 0 8 rfl, hc 7 1 9 rfl, hc 7 2 10 rfl, Option.bind_some, u1, e1, e2, e3, e4, hc1 0 0 1 rfl, hc1 0 3 7 rfl, v1, v2, hc2 0 0 1 rfl, hc2 0 3 7 rfl, x1, x2, hc3 0 3 7 rfl, c_begin0, z_r, ce, co]
  · rw [z_oth _ _ _ h1 h2 h3, x5 r k (by omega), v5 r k (by omega), u4 r k (by omega)]
end EFF
