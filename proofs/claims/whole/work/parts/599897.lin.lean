section LIN
def mli (g0 V : ab_HP) (n : Nat) (pre : List Nat) (st : fST) : Prop := gm g0 V ∧ mp V ∧ ab_i V 31 24 = nI n ∧ (∀ j, j < pre.length → ab_i V 47 j = nI (og pre j)) ∧ ab_i V 31 34 = fw st ∧ ∀ x, st = some x → ab_i V 31 33 = x.2
theorem m_lcp (self : Nat → Int32 → Int32 → Int32 → Int32 → ab_HP → Option ab_HP) {d n : Nat} (hd : d < 8) (hn : n ≤ 5) {l : Nat → Nat} {pre : List Nat} (hpl : pre.length = n) (hpn : ∀ k, k < n → og pre k < n) (wd : Int32) : ∀ (c k : Nat) (V : ab_HP), k + c = n → mp V → (∀ j, j < n → ab_i V 38 (100 * d + j) = nI (l j)) → (∀ j, j < n → ab_i V 47 j = nI (og pre j)) → ∀ f, ∃ X, f_X12_lines_l17 self 31 (f + c) (nI d) wd (nI n) (nI k) V = f_X12_lines_l17 self 31 f (nI d) wd (nI n) (nI n) X ∧ gm V X ∧ (∀ j, k ≤ j → j < n → ab_i X 42 j = nI (l (og pre j))) ∧ (∀ j, j < k → ab_i X 42 j = ab_i V 42 j) ∧ ∀ r j, r ≠ 42 → ab_i X r j = ab_i V r j
  | 0, k, V, e, hp, h38, h47, f => by
    have e : k = n := by omega
    subst e
    exact ⟨V, rfl, gm_refl V, fun j h1 h2 => by omega, fun _ _ => rfl, fun _ _ _ => rfl⟩
  | c + 1, k, V, e, hp, h38, h47, f => by
    have q : ¬ nI n ≤ nI k := nI_ge (by omega) (by omega)
    have hx := hpn k (by omega)
    have a1 : (100 : Int32) * nI d + nI (og pre k) = nI (100 * d + og pre k) := by rw [n_lit 100, nI_mul, nI_add]
    have b1 : ab_in (nI (100 * d + og pre k)) 800 = true := in_nI (by omega) (by decide)
    have c1 : (nI (100 * d + og pre k)).toNatClampNeg = 100 * d + og pre k := nI_clamp (by omega)
    have b2 : ab_in (nI k) 5 = true := in_nI (by omega) (by decide)
    have b3 : ab_in (nI k) 16 = true := in_nI (by omega) (by decide)
    have c2 : (nI k).toNatClampNeg = k := nI_clamp (by omega)
    have o : ∀ r j, ¬ (r = 42 ∧ j = k) → ab_i (ab_ip V 42 k (nI (l (og pre k)))) r j = ab_i V r j := fun r j g => by rw [hi_ip, if_neg g]
    obtain ⟨X, x1, x2, x3, x4, x5⟩ := m_lcp self hd hn hpl hpn wd c (k + 1) (ab_ip V 42 k (nI (l (og pre k)))) (by omega) (mp_ip hp _ _ _) (fun j hj => (o _ _ (by omega)).trans (h38 j hj)) (fun j hj => (o _ _ (by omega)).trans (h47 j hj)) f
    refine ⟨X, ?_, (gm_ip (by omega)).trans x2, ?_, ?_, fun r j g => (x5 r j g).trans (o r j (by omega))⟩
    · rw [show f + (c + 1) = (f + c) + 1 from rfl, f_X12_lines_l17, if_neg q]
      simp only [Option.bind_some, ab_let, Option.elim_some, Option.elim_none, hp 32, hp 6, hp 19, mp_0, mp_1, mp_2, mp_3, mp_4, mp_5, mp_6, mp_7, mp_8, mp_16, mp_19, mp_20, mp_21, mp_22, mp_23, mp_32, mp_39, shp_2, shp_4, shp_6, shp_8, shp_9, shp_10, shp_11, shp_12, shp_13, shp_14, shp_32, shp_33, shp_34, shp_35, shp_36, shp_37, shp_38, shp_39, shp_40, shp_41, shp_42, shp_43, shp_44, shp_45, shp_46, shp_47, shp_48, shp_49, b2, b3, c2, if_true, h47 k (by omega), a1, b1, c1, h38 _ hx, nI_1]
      exact x1
    · intro j h1 h2
      by_cases g : j = k
      · subst g
        rw [x4 j (by omega), hi_ip, if_pos ⟨rfl, rfl⟩]
      · exact x3 j (by omega) h2
    · intro j h1
      rw [x4 j (by omega), o _ _ (by omega)]
theorem m_l107 (self : Nat → Int32 → Int32 → Int32 → Int32 → ab_HP → Option ab_HP) {pre : List Nat} : ∀ (k : Nat) (a : Int32) (V : ab_HP), k ≤ 5 → mp V → (∀ j, j < k → ab_i V 47 j = nI (og pre j)) → ab_i V 31 33 = a → ∀ F, k < F → ∃ X, f_X12_lines_l107 self 31 F (nI k - 1) V = some X ∧ ab_i X 31 33 = dgl pre k a ∧ gm V X ∧ ∀ r j, ¬ (r = 31 ∧ j = 33) → ab_i X r j = ab_i V r j
  | 0, a, V, hk, hp, h47, h33, F + 1, _ => by
    rw [f_X12_lines_l107]
    simp only [i_neg, if_true]
    exact ⟨V, rfl, h33, gm_refl V, fun _ _ _ => rfl⟩
  | k + 1, a, V, hk, hp, h47, h33, F + 1, hF => by
    have b2 : ab_in (nI k) 5 = true := in_nI (by omega) (by decide)
    have c2 : (nI k).toNatClampNeg = k := nI_clamp (by omega)
    have o : ∀ r j, ¬ (r = 31 ∧ j = 33) → ab_i (ab_ip V 31 33 ((10 : Int32) * a + nI (og pre k))) r j = ab_i V r j := fun r j g => by rw [hi_ip, if_neg g]
    obtain ⟨X, x1, x2, x3, x4⟩ := m_l107 self k ((10 : Int32) * a + nI (og pre k)) (ab_ip V 31 33 ((10 : Int32) * a + nI (og pre k))) (by omega) (mp_ip hp _ _ _) (fun j hj => (o _ _ (by omega)).trans (h47 j (by omega))) (by rw [hi_ip, if_pos ⟨rfl, rfl⟩]) F (by omega)
    rw [f_X12_lines_l107]
    simp only [nI_pred, nI_lt0 (show k < 2 ^ 31 by omega), if_false, Option.bind_some, ab_let, Option.elim_some, Option.elim_none, hp 32, mp_0, mp_1, mp_2, mp_3, mp_4, mp_5, mp_6, mp_7, mp_8, mp_16, mp_19, mp_20, mp_21, mp_22, mp_23, mp_32, mp_39, shp_2, shp_4, shp_6, shp_8, shp_9, shp_10, shp_11, shp_12, shp_13, shp_14, shp_32, shp_33, shp_34, shp_35, shp_36, shp_37, shp_38, shp_39, shp_40, shp_41, shp_42, shp_43, shp_44, shp_45, shp_46, shp_47, shp_48, shp_49, b2, c2, if_true, h33, h47 k (by omega), i_m1]
    exact ⟨X, x1, x2, (gm_ip (by omega)).trans x3, fun r j g => (x4 r j g).trans (o r j g)⟩
  | _, _, _, _, _, _, _, 0, h => absurd h (Nat.not_lt_zero _)
theorem m_leaf (self : Nat → Int32 → Int32 → Int32 → Int32 → ab_HP → Option ab_HP) {g0 : ab_HP} {N : Nat} (ht : tw N (ab_i g0 32)) {d n : Nat} (hd : d < 8) (hn : n ≤ 5) {l : Nat → Nat} (wd : Int32) (el : ∀ j, j < n → ab_i g0 38 (100 * d + j) = nI (l j) ∧ l j < N) {pre : List Nat} (hpl : pre.length = n) (hpn : ∀ k, k < n → og pre k < n) {V : ab_HP} {st : fST} (hst : stb st) (H : mli g0 V n pre st) : ∃ X, f_X12_lines_l17 self 31 1000 (nI d) wd (nI n) 0 V = some X ∧ mli g0 X n pre (fstp (ab_i g0 32) l n wd st pre) := by
  obtain ⟨B, hp, h24, h47, h34, h33⟩ := H
  have hN := ht.1
  have p5 : 2 ^ n < 900 := Nat.lt_of_le_of_lt (Nat.pow_le_pow_right (n := 2) (by decide) hn) (by decide)
  obtain ⟨X, x1, x2, x3, x4, x5⟩ := m_lcp self hd hn hpl hpn (l := l) wd n 0 V (by omega) hp (fun j hj => by rw [B.2.1 38 _ (by omega)]; exact (el j hj).1) (fun j hj => h47 j (by omega)) (1000 - n)
  have BX := B.trans x2
  have hpX := x2.mp hp
  have mlX : ml X n (fun j => l (og pre j)) := ⟨by omega, (x5 31 24 (by decide)).trans h24, fun j hj => ⟨x3 j (by omega) hj, Nat.lt_of_lt_of_le (el _ (hpn j hj)).2 hN⟩⟩
  have o : ∀ r j, ¬ (r = 31 ∧ j = 30) → ab_i (ab_ip X 31 30 (-4)) r j = ab_i X r j := fun r j q => by rw [hi_ip, if_neg q]
  obtain ⟨Y, y1, y2, y3, y4, y5, y6⟩ := m_fin (show n ≤ 8 by omega) (s := ab_i g0 32) (li := fun j => l (og pre j)) wd (2 ^ n) 0 (ab_ip X 31 30 (-4)) (by omega) (mp_ip hpX _ _ _) ⟨mlX.1, (o 31 24 (by omega)).trans mlX.2.1, fun i hi => ⟨(o 42 i (by omega)).trans (mlX.2.2 i hi).1, (mlX.2.2 i hi).2⟩⟩ (by rw [show ab_i (ab_ip X 31 30 (-4)) 32 = ab_i X 32 from funext fun j => o 32 j (by omega), BX.s32]) (by rw [hi_ip, if_pos ⟨rfl, rfl⟩]; rfl) (fun b hb => by cases hb) 1000 (by omega)
  have yf : f_X12_finds 31 wd X = some (bI (lbest (ab_i g0 32) (fun j => l (og pre j)) n wd (2 ^ n)).isSome, Y) := by
    rw [show nI 0 = (0 : Int32) from rfl] at y1
    rw [f_X12_finds]; exact y1
  have BY : gm g0 Y := BX.trans ((gm_ip (by omega)).trans y2)
  have hpY := BY.mp (fun k => by rw [← B.2.2]; exact hp k)
  have k24 : ab_i Y 31 24 = nI n := y3.2.1
  have k47 : ∀ j, j < pre.length → ab_i Y 47 j = nI (og pre j) := fun j hj => by rw [y6 47 j (by omega), o 47 j (by omega), x5 47 j (by decide)]; exact h47 j hj
  have k34 : ab_i Y 31 34 = fw st := by rw [y6 31 34 (by omega), o 31 34 (by omega), x5 31 34 (by decide)]; exact h34
  have k33 : ∀ x, st = some x → ab_i Y 31 33 = x.2 := fun x hx => by rw [y6 31 33 (by omega), o 31 33 (by omega), x5 31 33 (by decide)]; exact h33 x hx
  have hl17 : f_X12_lines_l17 self 31 1000 (nI d) wd (nI n) 0 V = f_X12_lines_l17 self 31 (999 - n + 1) (nI d) wd (nI n) (nI n) X := by
    have := x1
    rw [show 1000 - n + n = 1000 by omega, show nI 0 = (0 : Int32) from rfl] at this
    rw [this, show 999 - n + 1 = 1000 - n by omega]
  rw [hl17, f_X12_lines_l17, if_pos (nI_le (Nat.le_refl _) (by omega)), yf]
  simp only [Option.bind_some, bI_0]
  -- a better one is written down
  have put : ∀ b, lbest (ab_i g0 32) (fun j => l (og pre j)) n wd (2 ^ n) = some b → fstp (ab_i g0 32) l n wd st pre = some (pcN 16 b, dgl pre n 0) → ∃ X, f_X12_lines_b85 self 31 (nI n) Y = some X ∧ mli g0 X n pre (fstp (ab_i g0 32) l n wd st pre) := by
    intro b hb est
    have hbk := lbest_lt _ _ _ _ _ b hb
    rw [hb] at y4
    simp only [bo] at y4
    have o2 : ∀ r j, ¬ (r = 31 ∧ (j = 33 ∨ j = 34)) → ab_i (ab_ip (ab_ip Y 31 34 (nI (pcN 16 b))) 31 33 0) r j = ab_i Y r j := fun r j q => by rw [hi_ip, if_neg (by omega), hi_ip, if_neg (by omega)]
    obtain ⟨Z, z1, z2, z3, z4⟩ := m_l107 self (pre := pre) n 0 (ab_ip (ab_ip Y 31 34 (nI (pcN 16 b))) 31 33 0) hn (mp_ip (mp_ip hpY _ _ _) _ _ _) (fun j hj => (o2 _ _ (by omega)).trans (k47 j (by omega))) (by rw [hi_ip, if_pos ⟨rfl, rfl⟩]) 1000 (by omega)
    refine ⟨Z, ?_, ?_⟩
    · unfold f_X12_lines_b85 ab_let
      rw [y4, m_bits (show b < 65536 by omega)]
      exact z1
    · have BZ : gm g0 Z := BY.trans (((gm_ip (by omega)).trans (gm_ip (by omega))).trans z3)
      rw [est]
      refine ⟨BZ, z3.mp (mp_ip (mp_ip hpY _ _ _) _ _ _), ?_, fun j hj => ?_, ?_, fun x hx => ?_⟩
      · rw [z4 31 24 (by omega), o2 31 24 (by omega)]; exact k24
      · rw [z4 47 j (by omega), o2 47 j (by omega)]; exact k47 j hj
      · rw [z4 31 34 (by omega), hi_ip, if_neg (by omega), hi_ip, if_pos ⟨rfl, rfl⟩]; rfl
      · cases hx
        exact z2
  have leave : fstp (ab_i g0 32) l n wd st pre = st → mli g0 Y n pre (fstp (ab_i g0 32) l n wd st pre) := fun est => by
    rw [est]
    exact ⟨BY, hpY, k24, k47, k34, k33⟩
  rcases hlb : lbest (ab_i g0 32) (fun j => l (og pre j)) n wd (2 ^ n) with _ | b
  · simp only [Option.isSome_none, if_true]
    exact ⟨Y, rfl, leave (by simp only [fstp, hlb])⟩
  · have hbk := lbest_lt _ _ _ _ _ b hlb
    have pb := pc_le16 b
    have e30 := y4
    rw [hlb] at e30
    simp only [bo] at e30
    simp only [Option.isSome_some, Bool.true_eq_false, if_false, k34, e30, m_bits (show b < 65536 by omega), Option.bind_some, fw_lt0 hst]
    rcases hs0 : st with _ | x
    · have est : fstp (ab_i g0 32) l n wd st pre = some (pcN 16 b, dgl pre n 0) := by simp only [fstp, hlb, hs0]
      have := put b hlb est
      rw [hs0] at this
      simp only [if_true]
      exact this
    · have hx := hst x hs0
      simp only [reduceCtorEq, if_false, fw]
      by_cases a : pcN 16 b < x.1
      · have est : fstp (ab_i g0 32) l n wd st pre = some (pcN 16 b, dgl pre n 0) := by
          unfold fstp
          rw [hlb, hs0]
          show (if pcN 16 b < x.1 then some (pcN 16 b, dgl pre n 0) else some x) = _
          rw [if_pos a]
        have := put b hlb est
        rw [hs0] at this
        have q2 : nI (pcN 16 b) < nI x.1 := nI_lt a (by omega)
        simp only [q2, if_true]
        exact this
      · have est : fstp (ab_i g0 32) l n wd st pre = st := by
          unfold fstp
          rw [hlb, hs0]
          show (if pcN 16 b < x.1 then some (pcN 16 b, dgl pre n 0) else some x) = _
          rw [if_neg a]
        have := leave est
        rw [hs0] at this
        have q2 : ¬ nI (pcN 16 b) < nI x.1 := nI_nlt (by omega) (by omega)
        simp only [q2, if_false]
        exact ⟨Y, rfl, this⟩
end LIN
