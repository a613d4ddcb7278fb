section FRC
def dgl (p : List Nat) : Nat → Int32 → Int32
  | 0, a => a
  | k + 1, a => dgl p k ((10 : Int32) * a + nI (og p k))
abbrev fST : Type := Option (Nat × Int32)
def fstp (s : Nat → Int32) (l : Nat → Nat) (n : Nat) (wd : Int32) (st : fST) (p : List Nat) : fST := match lbest s (fun j => l (og p j)) n wd (2 ^ n) with
  | none => st
  | some b => match st with
    | none => some (pcN 16 b, dgl p n 0)
    | some x => if pcN 16 b < x.1 then some (pcN 16 b, dgl p n 0) else some x
def fw (st : fST) : Int32 := match st with
  | none => -4
  | some x => nI x.1
def fd (st : fST) : Int32 := match st with
  | none => -4
  | some x => x.2
def stb (st : fST) : Prop := ∀ x, st = some x → x.1 ≤ 16
theorem fstp_b {s : Nat → Int32} {l : Nat → Nat} {n : Nat} {wd : Int32} {st : fST} (p : List Nat) (H : stb st) : stb (fstp s l n wd st p) := by
  intro x hx
  unfold fstp at hx
  split at hx
  · exact H x hx
  · rename_i b hb
    have := pc_le16 b
    rcases st with _ | y
    · cases hx; exact this
    · simp only at hx
      split at hx
      · cases hx; exact this
      · exact H x hx
theorem og_take {p : List Nat} {n k : Nat} (h : k < n) : og (p.take n) k = og p k := by
  unfold og
  rw [List.getD_eq_getElem?_getD, List.getD_eq_getElem?_getD, List.getElem?_take_of_lt h]
theorem dgl_take (p : List Nat) (n : Nat) : ∀ (k : Nat) (a : Int32), k ≤ n → dgl (p.take n) k a = dgl p k a
  | 0, _, _ => rfl
  | k + 1, a, h => by rw [dgl, dgl, og_take (by omega), dgl_take p n k _ (by omega)]
theorem c_dgl {h : ab_HP} {p : List Nat} (H : oh h p) : ∀ (k : Nat) (a : Int32), k ≤ 5 → ∀ F, k < F → f_X11_orderDigits_l6 0 F a (nI k - 1) h = some (dgl p k a)
  | 0, a, _, F + 1, _ => by
    rw [f_X11_orderDigits_l6]
    simp only [i_neg, if_true]
    rfl
  | k + 1, a, hk, F + 1, hF => by
    have ih := fun a => c_dgl H k a (by omega) F (by omega)
    rw [f_X11_orderDigits_l6]
    simp only [nI_pred, nI_lt0 (show k < 2 ^ 31 by omega), if_false, H.1, c_oat H (show k < 5 by omega), Option.bind_some, i_m1, ih, dgl]
  | _, _, _, 0, h => absurd h (Nat.not_lt_zero _)
theorem c_tko {N : Nat} {s : Nat → Int32} (ht : tw N s) {d n : Nat} (hd : d < 8) (hn : n ≤ 5) {l : Nat → Nat} {p : List Nat} (hpn : ∀ i, i < n → og p i < n) : ∀ (c k : Nat) (U : ab_HP), k + c = n → kc U N s k (fun j => l (og (p.take n) j)) → oh U p → ab_i U (15 + 2 * d) 3 = nI n → (∀ j, j < n → ab_i U (16 + 2 * d) j = nI (l j) ∧ l j < N) → ∀ f, c < f → ∃ W, f_X11_takeOrder_l13 0 f (some (15 + 2 * d)) (nI k) U = some W ∧ kc W N s n (fun j => l (og (p.take n) j)) ∧ hm U W ∧ ∀ a b, ¬ (a = 7 ∧ b = 5) → ab_i W a b = ab_i U a b
  | 0, k, U, e, K, O, es, el, f + 1, _ => by
    have e : k = n := by omega
    subst e
    rw [f_X11_takeOrder_l13]
    simp only [Option.bind_some, ab_let, Option.elim_some, Option.elim_none, es]
    rw [if_pos (nI_le (Nat.le_refl _) (by omega))]
    exact ⟨U, rfl, K, hm_refl U, fun _ _ _ => rfl⟩
  | c + 1, k, U, e, K, O, es, el, f + 1, hf => by
    have q : ¬ nI n ≤ nI k := nI_ge (by omega) (by omega)
    have hx := hpn k (by omega)
    have ot : og (p.take n) k = og p k := og_take (by omega)
    obtain ⟨r, W, w1, w2, w3, w4, w5⟩ := kc_add ht K (show k < 16 by omega) (show l (og (p.take n) k) < N by rw [ot]; exact (el _ hx).2)
    have hc := K.1
    have rd := c_rd hc hd (show n ≤ 100 by omega) es hx
    rw [(el _ hx).1] at rd
    simp only [ot] at w1
    obtain ⟨X, x1, x2, x3, x4⟩ := c_tko ht hd hn hpn c (k + 1) W (by omega) w3 ⟨w3.1 0 5 12 rfl, O.2.1, O.2.2.1, fun j hj => (w5 12 j (by omega)).trans (O.2.2.2 j hj)⟩ ((w5 _ _ (by omega)).trans es) (fun j hj => ⟨(w5 _ _ (by omega)).trans (el j hj).1, (el j hj).2⟩) f (by omega)
    refine ⟨X, ?_, x2, w4.trans x3, fun a b g => (x4 a b g).trans (w5 a b g)⟩
    rw [f_X11_takeOrder_l13]
    simp only [Option.bind_some, ab_let, Option.elim_some, Option.elim_none, es, q, if_false, hc 0 0 1 rfl, hc 0 1 3 rfl, hc 0 2 5 rfl, hc 0 3 7 rfl, hc 0 4 11 rfl, hc 0 5 12 rfl, hc 0 6 13 rfl, hc 0 7 14 rfl, hc 1 0 2 rfl, hc 3 0 4 rfl, hc 5 0 6 rfl, hc 7 0 8 rfl, hc 7 1 9 rfl, hc 7 2 10 rfl, c_oat O (show k < 5 by omega), rd, w1, w2, nI_1]
    exact x1
  | _, _, _, _, _, _, _, _, 0, h => absurd h (Nat.not_lt_zero _)
theorem ogd5_e {n : Nat} {p : List Nat} (h : ogd5 n p = true) (hn : n ≤ 5) : p.length = 5 ∧ (∀ k, k < 5 → og p k < 5) ∧ ∀ k, k < n → og p k < n := by
  unfold ogd5 at h
  simp only [Bool.and_eq_true, beq_iff_eq, List.all_eq_true, decide_eq_true_eq] at h
  obtain ⟨⟨h1, h2⟩, h3⟩ := h
  refine ⟨h1, fun k hk => ?_, fun k hk => ?_⟩
  · unfold og
    rw [List.getD_eq_getElem?_getD, List.getElem?_eq_getElem (by omega), Option.getD_some]
    exact h2 _ (List.getElem_mem _)
  · rw [← og_take (p := p) hk]
    unfold og
    rw [List.getD_eq_getElem?_getD, List.getElem?_eq_getElem (by rw [List.length_take]; omega), Option.getD_some]
    exact h3 _ (List.getElem_mem _)
theorem ogd_5 {n : Nat} {p : List Nat} : ∀ {f : Nat}, ogd n f p = true → ogd5 n p = true
  | 0, h => h
  | f + 1, h => by
    rw [ogd, Bool.and_eq_true] at h
    exact h.1
theorem fw_lt0 {st : fST} (H : stb st) : (fw st < 0) = (st = none) := by
  rcases st with _ | x
  · exact propext ⟨fun _ => rfl, fun _ => by decide⟩
  · have := H x rfl
    exact propext ⟨fun q => absurd q (nI_pos (by omega)), fun q => by cases q⟩
theorem c_frl {h : ab_HP} {N : Nat} {s : Nat → Int32} (ht : tw N s) {d n : Nat} (hd : d < 8) (hn : n ≤ 5) {l : Nat → Nat} (wd wh : Int32) (h2 : ab_i h 1 2 = s 0) (h3 : ab_i h 1 3 = s 1) (es : ab_i h (15 + 2 * d) 3 = nI n) (el : ∀ j, j < n → ab_i h (16 + 2 * d) j = nI (l j) ∧ l j < N) : ∀ (f : Nat) (p : List Nat) (cnt : Nat) (U : ab_HP) (st : fST), cnt + f = 120 → ogd n f p = true → stb st → cp U → td U 1 N s → oh U p → hm h U → ∀ F, f + 1 < F → ∃ W, f_X11_freest_l42 0 F (some (15 + 2 * d)) wd wh (fw st) (fd st) 1 (nI cnt) U = some (if wh = 0 then fd ((vis n f p).foldl (fstp s l n wd) st) else fw ((vis n f p).foldl (fstp s l n wd) st), W) ∧ hm h W
  | 0, p, cnt, U, st, e, hg, hst, hc, htd, O, A, F + 1, _ => by
    have e : cnt = 120 := by omega
    subst e
    rw [f_X11_freest_l42, if_pos (show (120 : Int32) ≤ nI 120 by decide)]
    unfold f_X11_freest_b122
    refine ⟨U, ?_, A⟩
    show (if wh = 0 then some (fd st, U) else some (fw st, U)) = some (if wh = 0 then fd st else fw st, U)
    split <;> rfl
  | f + 1, p, cnt, U, st, e, hg, hst, hc, htd, O, A, F + 1, hF => by
    have hN := ht.1
    have q : ¬ (120 : Int32) ≤ nI cnt := nI_ge (b := 120) (by omega) (by decide)
    have g5 := ogd5_e (ogd_5 hg) hn
    have p5 : 2 ^ n < 1000 := Nat.lt_of_le_of_lt (Nat.pow_le_pow_right (n := 2) (by decide) hn) (by decide)
    obtain ⟨W0, a1, a2, a3, a4⟩ := kc_open hc ht htd (fun j => l (og (p.take n) j))
    have O0 : oh W0 p := ⟨a2.1 0 5 12 rfl, O.2.1, O.2.2.1, fun j hj => (a4 12 j (by omega)).trans (O.2.2.2 j hj)⟩
    have A0 := A.trans a3
    obtain ⟨W1, b1, b2, b3, b4⟩ := c_tko ht hd hn g5.2.2 n 0 W0 (by omega) a2 O0 (by rw [A0.2.1 _ _ (by omega)]; exact es) (fun j hj => ⟨by rw [A0.2.1 _ _ (by omega)]; exact (el j hj).1, (el j hj).2⟩) 1000 (by omega)
    have A1 := A0.trans b3
    obtain ⟨W2, c1, c2, c3, c4⟩ := c_lea hN (show n ≤ 8 by omega) (s := s) (li := fun j => l (og (p.take n) j)) wd (2 ^ n) 0 W1 0 (by omega) b2 (by rw [A1.2.1 _ _ (by omega)]; exact h2) (by rw [A1.2.1 _ _ (by omega)]; exact h3) (fun b hb => by cases hb) 1000 (by omega)
    rw [show nI 0 = (0 : Int32) from rfl] at b1 c1
    have l0 : bo (lbest s (fun j => l (og (p.take n) j)) n wd 0) = -4 := rfl
    rw [l0] at c1
    have c1 : f_X10_leastNails 7 wd W1 = some (bo (lbest s (fun j => l (og (p.take n) j)) n wd (2 ^ n)), W2) := by rw [f_X10_leastNails]; exact c1
    have A2 := A1.trans c3
    have O2 : oh W2 p := ⟨c2.1 0 5 12 rfl, O.2.1, O.2.2.1, fun j hj => by rw [c4 12 j (by decide) (by decide) (by decide), b4 12 j (by omega), a4 12 j (by omega)]; exact O.2.2.2 j hj⟩
    have es2 : ab_i W2 (15 + 2 * d) 3 = nI n := by rw [A2.2.1 _ _ (by omega)]; exact es
    obtain ⟨W3, d1, d2, d3⟩ := c_onx O2 hn
    have A3 := A2.trans d3.hm
    have hc3 := d3.hm.cp c2.1
    have od : f_X11_orderDigits 0 (nI n) W2 = some (dgl p n 0) := by rw [f_X11_orderDigits]; exact c_dgl O2 n 0 (by omega) 1000 (by omega)
    -- one order more, whatever was found
    have go : ∀ st', stb st' → st' = fstp s l n wd st (p.take n) → ∃ W, f_X11_freest_b106 (f_X11_freest_l42 0 F) 0 (some (15 + 2 * d)) wd wh (fw st') (fd st') (nI cnt) W2 = some (if wh = 0 then fd ((vis n (f + 1) p).foldl (fstp s l n wd) st) else fw ((vis n (f + 1) p).foldl (fstp s l n wd) st), W) ∧ hm h W := by
      intro st' hst' est
      unfold f_X11_freest_b106
      simp only [Option.bind_some, es2, d1, nI_1]
      rcases hox : onx n p with _ | p'
      · have ev : (vis n (f + 1) p).foldl (fstp s l n wd) st = st' := by
          simp only [vis, hox, List.foldl_cons, List.foldl_nil]
          exact est.symm
        rw [ev]
        refine ⟨W3, ?_, A3⟩
        obtain ⟨F', rfl⟩ : ∃ F', F = F' + 1 := ⟨F - 1, by omega⟩
        show f_X11_freest_l42 0 (F' + 1) (some (15 + 2 * d)) wd wh (fw st') (fd st') 0 (nI (cnt + 1)) W3 = some (if wh = 0 then fd st' else fw st', W3)
        rw [f_X11_freest_l42]
        unfold f_X11_freest_b122
        simp only [if_true, ite_self]
        split <;> rfl
      · have ev : (vis n (f + 1) p).foldl (fstp s l n wd) st = (vis n f p').foldl (fstp s l n wd) st' := by
          simp only [vis, hox, List.foldl_cons]
          rw [est]
        rw [ev]
        simp only [ogd, hox, Bool.and_eq_true] at hg
        exact c_frl ht hd hn wd wh h2 h3 es el f p' (cnt + 1) W3 st' (by omega) hg.2 hst' hc3 (td_hm (c3.trans d3.hm) hN b2.2.1) (d2 p' hox) A3 F (by omega)
    rw [f_X11_freest_l42, if_neg q, if_neg (by decide)]
    unfold f_X11_takeOrder f_X11_freest_b89
    have hc1 := b2.1
    simp only [hc 0 0 1 rfl, hc 0 1 3 rfl, hc 0 2 5 rfl, hc 0 3 7 rfl, hc 0 4 11 rfl, hc 0 5 12 rfl, hc 0 6 13 rfl, hc 0 7 14 rfl, hc 1 0 2 rfl, hc 3 0 4 rfl, hc 5 0 6 rfl, hc 7 0 8 rfl, hc 7 1 9 rfl, hc 7 2 10 rfl, Option.bind_some, a1, b1, hc1 0 3 7 rfl, c1]
    have dt := dgl_take p n n 0 (Nat.le_refl _)
    rcases hlb : lbest s (fun j => l (og (p.take n) j)) n wd (2 ^ n) with _ | b
    · have est : st = fstp s l n wd st (p.take n) := by simp only [fstp, hlb]
      simp only [bo, k_m4, if_true]
      exact go st hst est
    · have hbk := lbest_lt _ _ _ _ _ b hlb
      have pb := pc_le16 b
      simp only [bo, nI_lt0 (show b < 2 ^ 31 by omega), if_false, fw_lt0 hst, bc_nI (show b < 65536 by omega), Option.bind_some, es2, od]
      have hst' := fstp_b (s := s) (l := l) (n := n) (wd := wd) (p.take n) hst
      rcases hs0 : st with _ | x
      · have est : fstp s l n wd st (p.take n) = some (pcN 16 b, dgl p n 0) := by
          unfold fstp
          rw [hlb, hs0]
          show some (pcN 16 b, dgl (p.take n) n 0) = _
          rw [dt]
        have := go _ hst' rfl
        rw [est] at this
        rw [hs0] at this
        simp only [if_true]
        exact this
      · have hx := hst x hs0
        simp only [reduceCtorEq, if_false, fw]
        by_cases a : pcN 16 b < x.1
        · have est : fstp s l n wd st (p.take n) = some (pcN 16 b, dgl p n 0) := by
            unfold fstp
            rw [hlb, hs0]
            show (if pcN 16 b < x.1 then some (pcN 16 b, dgl (p.take n) n 0) else some x) = _
            rw [if_pos a, dt]
          have := go _ hst' rfl
          rw [est, hs0] at this
          have q2 : ¬ nI x.1 ≤ nI (pcN 16 b) := nI_ge a (by omega)
          simp only [q2, if_false]
          exact this
        · have est : fstp s l n wd st (p.take n) = some x := by
            unfold fstp
            rw [hlb, hs0]
            show (if pcN 16 b < x.1 then some (pcN 16 b, dgl (p.take n) n 0) else some x) = _
            rw [if_neg a]
          have := go _ hst' rfl
          rw [est, hs0] at this
          have q2 : nI x.1 ≤ nI (pcN 16 b) := nI_le (by omega) (by omega)
          simp only [q2, if_true]
          exact this
  | _, _, _, _, _, _, _, _, _, _, _, _, 0, h => absurd h (Nat.not_lt_zero _)
end FRC
