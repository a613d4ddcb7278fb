section PRM
def mtx (V : ab_HP) (d m : Nat) (el : Nat → Int32) : Prop := mp V ∧ d < 8 ∧ m ≤ 100 ∧ ab_i V 31 12 = nI (100 * d) ∧ ab_i V 31 13 = nI m ∧ ∀ k, k < m → ab_i V 38 (100 * d + k) = el k
def mhv (el : Nat → Int32) (m p : Nat) : Int32 := if p < m then el p else -1000
/-- what the reading may change -/
def pfr (V W : ab_HP) : Prop := W.1 = V.1 ∧ (∀ r k, r ≠ 41 → ¬ (r = 31 ∧ (k = 11 ∨ k = 14 ∨ k = 15 ∨ k = 17 ∨ k = 18)) → ab_i W r k = ab_i V r k) ∧ (∀ r k, ab_r W r k = ab_r V r k) ∧ ∀ r k, ab_l W r k = ab_l V r k
theorem pfr_refl (V : ab_HP) : pfr V V := ⟨rfl, fun _ _ _ _ => rfl, fun _ _ => rfl, fun _ _ => rfl⟩
theorem pfr.trans {a b c : ab_HP} (H : pfr a b) (G : pfr b c) : pfr a c := ⟨G.1.trans H.1, fun r k q1 q2 => (G.2.1 r k q1 q2).trans (H.2.1 r k q1 q2), fun r k => (G.2.2.1 r k).trans (H.2.2.1 r k), fun r k => (G.2.2.2 r k).trans (H.2.2.2 r k)⟩
theorem pfr_ip {V : ab_HP} {r k : Nat} {v : Int32} (h : r = 41 ∨ (r = 31 ∧ (k = 11 ∨ k = 14 ∨ k = 15 ∨ k = 17 ∨ k = 18))) : pfr V (ab_ip V r k v) := ⟨rfl, fun a b q1 q2 => by rw [hi_ip, if_neg (by omega)], fun _ _ => rfl, fun _ _ => rfl⟩
theorem mtx.pfr {V W : ab_HP} {d m : Nat} {el : Nat → Int32} (A : pfr V W) (T : mtx V d m el) : mtx W d m el := by
  obtain ⟨h1, h2, h3, h4, h5, h6⟩ := T
  exact ⟨fun k => by rw [A.2.2.1]; exact h1 k, h2, h3, by rw [A.2.1 _ _ (by decide) (by omega)]; exact h4, by rw [A.2.1 _ _ (by decide) (by omega)]; exact h5, fun k hk => by rw [A.2.1 _ _ (by decide) (by omega)]; exact h6 k hk⟩
section
variable {V : ab_HP} {d m p : Nat} {el : Nat → Int32}
theorem m_here (T : mtx V d m el) (h : ab_i V 31 11 = nI p) (hp : p < 2000) : f_X12_here 31 V = some (mhv el m p) := by
  obtain ⟨h1, h2, h3, h4, h5, h6⟩ := T
  unfold f_X12_here mhv
  rw [h5, h]
  by_cases q : p < m
  · have b1 : ab_in (nI (100 * d + p)) 800 = true := in_nI (by omega) (by decide)
    have c1 : (nI (100 * d + p)).toNatClampNeg = 100 * d + p := nI_clamp (by omega)
    have hp := h1
    rw [if_neg (nI_ge q (by omega)), if_pos q]
    simp only [hp 6, mp_0, mp_1, mp_2, mp_3, mp_4, mp_5, mp_6, mp_7, mp_8, mp_16, mp_19, mp_20, mp_21, mp_22, mp_23, mp_32, mp_39, Option.bind_some, ab_let, Option.elim_some, Option.elim_none, shp_2, shp_4, shp_6, shp_8, shp_9, shp_10, shp_11, shp_12, shp_13, shp_14, shp_32, shp_33, shp_34, shp_35, shp_36, shp_37, shp_38, shp_39, shp_40, shp_41, shp_42, shp_43, shp_44, shp_45, shp_46, shp_47, shp_48, shp_49, h4, nI_add, b1, c1, if_true, h6 p q]
  · rw [if_pos (nI_le (by omega) (by omega)), if_neg q]
theorem mhv_eq (el : Nat → Int32) (m p : Nat) {c : Int32} (hc : c ≠ -1000) : (mhv el m p = c) = (cS el m c p = true) := by
  unfold mhv cS
  by_cases q : p < m
  · simp only [q, if_true, decide_true, Bool.true_and, decide_eq_true_eq]
  · simp only [q, if_false, decide_false, Bool.false_and, Bool.false_eq_true, eq_iff_iff, iff_false]
    exact fun x => hc x.symm
theorem mhv_D (el : Nat → Int32) (m p : Nat) : decide (48 ≤ mhv el m p ∧ mhv el m p ≤ 57) = cD el m p := by
  unfold mhv cD
  by_cases q : p < m
  · simp only [q, if_true, decide_true, Bool.true_and]
  · simp only [q, if_false, decide_false, Bool.false_and]
    decide
theorem mhv_L (el : Nat → Int32) (m p : Nat) : decide (97 ≤ mhv el m p ∧ mhv el m p ≤ 106) = cL el m p := by
  unfold mhv cL
  by_cases q : p < m
  · simp only [q, if_true, decide_true, Bool.true_and]
  · simp only [q, if_false, decide_false, Bool.false_and]
    decide
theorem m_isD (T : mtx V d m el) (h : ab_i V 31 11 = nI p) (hp : p < 2000) : f_X12_isDigit 31 V = some (bI (cD el m p)) := by
  unfold f_X12_isDigit
  rw [m_here T h hp, Option.bind_some, is_48_57, Option.bind_some, bI_if, mhv_D]
/-- a sign -/
theorem m_takes (T : mtx V d m el) (h : ab_i V 31 11 = nI p) (hp : p < 2000) {c : Int32} (hc : c ≠ -1000) : ∃ W, f_X12_takes 31 c V = some (bI (bSign el m c (true, p)).1, W) ∧ pfr V W ∧ ab_i W 31 11 = nI (bSign el m c (true, p)).2 ∧ ∀ r k, ¬ (r = 31 ∧ k = 11) → ab_i W r k = ab_i V r k := by
  unfold f_X12_takes bSign
  rw [m_here T h hp, Option.bind_some, if_pos (show ((true, p) : rT).1 = true from rfl)]
  by_cases a : cS el m c p = true
  · rw [if_pos ((mhv_eq el m p hc).mpr a), if_pos a, h, nI_1]
    exact ⟨_, rfl, pfr_ip (by omega), by rw [hi_ip, if_pos ⟨rfl, rfl⟩], fun r k q => by rw [hi_ip, if_neg q]⟩
  · rw [if_neg (fun x => a ((mhv_eq el m p hc).mp x)), if_neg a]
    exact ⟨V, rfl, pfr_refl V, h, fun _ _ _ => rfl⟩
/-- a letter -/
theorem m_mark (T : mtx V d m el) (h : ab_i V 31 11 = nI p) (hp : p < 2000) {t : Nat} (ht : t < 3) (h14 : ab_i V 31 14 = nI t) : ∃ W, f_X12_readsMark 31 V = some (bI (bLet el m (true, p)).1, W) ∧ pfr V W ∧ ab_i W 31 11 = nI (bLet el m (true, p)).2 ∧ ((bLet el m (true, p)).1 = true → ab_i W 31 14 = nI (t + 1) ∧ ab_i W 41 t = el p - 97 ∧ ∀ r k, ¬ (r = 31 ∧ (k = 11 ∨ k = 14)) → ¬ (r = 41 ∧ k = t) → ab_i W r k = ab_i V r k) := by
  have hq := T.1
  have b2 : ab_in (nI t) 3 = true := in_nI (by omega) (by decide)
  have c2 : (nI t).toNatClampNeg = t := nI_clamp (by omega)
  have hp' := hq
  unfold f_X12_readsMark bLet
  rw [m_here T h hp, Option.bind_some, is_97_106, Option.bind_some, bI_if, mhv_L, if_pos (show ((true, p) : rT).1 = true from rfl)]
  rcases Bool.eq_false_or_eq_true (cL el m p) with a | a
  · have pm : p < m := by
      unfold cL at a
      rw [Bool.and_eq_true, decide_eq_true_eq] at a
      exact a.1
    have e : mhv el m p = el p := if_pos pm
    rw [a, bI_t, if_neg (by decide), Option.bind_some, hp' 16, mp_16, Option.bind_some, shp_41, h14, if_pos b2, c2, e, if_pos rfl]
    have q14 : ab_i (ab_ip V 41 t (el p - 97)) 31 14 = nI t := by rw [hi_ip, if_neg (by omega)]; exact h14
    have q11 : ab_i (ab_ip (ab_ip V 41 t (el p - 97)) 31 14 (nI (t + 1))) 31 11 = nI p := by rw [hi_ip, if_neg (by omega), hi_ip, if_neg (by omega)]; exact h
    refine ⟨ab_ip (ab_ip (ab_ip V 41 t (el p - 97)) 31 14 (nI (t + 1))) 31 11 (nI (p + 1)), ?_, ((pfr_ip (by omega)).trans (pfr_ip (by omega))).trans (pfr_ip (by omega)), ?_, fun _ => ⟨?_, ?_, ?_⟩⟩
    · unfold ab_let
      dsimp only
      rw [q14, nI_1, q11, nI_1]
      rfl
    · rw [hi_ip, if_pos ⟨rfl, rfl⟩]
    · rw [hi_ip, if_neg (by omega), hi_ip, if_pos ⟨rfl, rfl⟩]
    · rw [hi_ip, if_neg (by omega), hi_ip, if_neg (by omega), hi_ip, if_pos ⟨rfl, rfl⟩]
    · intro r k q1 q2
      rw [hi_ip, if_neg (by omega), hi_ip, if_neg (by omega), hi_ip, if_neg (by omega)]
  · rw [a, bI_f, if_pos rfl, if_neg Bool.false_ne_true]
    exact ⟨V, rfl, pfr_refl V, h, fun x => by cases x⟩
/-! numbers -/
def dgv (el : Nat → Int32) (p : Nat) : Nat := (el p).toNatClampNeg - 48
def nvN (el : Nat → Int32) : Nat → Nat → Nat → Nat
  | 0, _, a => a
  | c + 1, p, a => nvN el c (p + 1) (10 * a + dgv el p)
theorem cD_v {el : Nat → Int32} {m p : Nat} (h : cD el m p = true) : p < m ∧ el p = nI (48 + dgv el p) ∧ dgv el p ≤ 9 := by
  unfold cD at h
  rw [Bool.and_eq_true, decide_eq_true_eq, decide_eq_true_eq, n_le, n_le] at h
  have e1 : (48 : Int32).toInt = 48 := rfl
  have e2 : (57 : Int32).toInt = 57 := rfl
  obtain ⟨x, hx, ex⟩ : ∃ x, x < 58 ∧ el p = nI x := n_in (by omega) (by omega)
  have h2 := h.2.1
  have h3 := h.2.2
  rw [ex, nI_toInt (by omega)] at h2 h3
  unfold dgv
  rw [ex, nI_clamp (by omega)]
  refine ⟨h.1, ?_, by omega⟩
  congr 1
  omega
theorem dg_step {el : Nat → Int32} {m p a : Nat} (h : cD el m p = true) : (((10 : Int32) * nI a) + el p) - (48 : Int32) = nI (10 * a + dgv el p) := by
  have e := (cD_v h).2.1
  have e2 : nI (10 * a) + nI (48 + dgv el p) - nI 48 = nI (10 * a + dgv el p) := by
    rw [nI_add, nx_sub (by omega)]
    congr 1
    omega
  rw [e, n_lit 10, nI_mul]
  exact e2
theorem m_l29 : ∀ (c j a p : Nat) (V : ab_HP), mtx V d m el → ab_i V 31 11 = nI p → p < 1500 → 0 < a → a < 10 ^ j → j + c ≤ 4 → ∀ F, c < F → ∃ W, f_X12_readsNumber_l29 31 F (nI (j + c)) (nI a) (nI j) V = f_X12_readsNumber_b74 31 (nI (nvN el (dgs el m c p - p) p a)) W ∧ pfr V W ∧ ab_i W 31 11 = nI (dgs el m c p) ∧ (∀ r k, ¬ (r = 31 ∧ k = 11) → ab_i W r k = ab_i V r k) ∧ nvN el (dgs el m c p - p) p a < 10 ^ (j + c)
  | 0, j, a, p, V, T, h, hp, h0, ha, hj, F + 1, _ => by
    rw [f_X12_readsNumber_l29, if_pos (nI_le (by omega) (by omega)), dgs, Nat.sub_self, nvN]
    exact ⟨V, rfl, pfr_refl V, h, fun _ _ _ => rfl, ha⟩
  | c + 1, j, a, p, V, T, h, hp, h0, ha, hj, F + 1, hF => by
    have p4 : 10 ^ j ≤ 10 ^ 3 := Nat.pow_le_pow_right (by decide) (by omega)
    rw [f_X12_readsNumber_l29, if_neg (nI_ge (by omega) (by omega)), if_neg (nI_nle h0 (by omega)), m_isD T h (by omega), Option.bind_some, dgs]
    rcases Bool.eq_false_or_eq_true (cD el m p) with b | b
    · have cv := cD_v b
      have hm := T.2.2.1
      have e : mhv el m p = el p := if_pos cv.1
      have o : ∀ r k, ¬ (r = 31 ∧ k = 11) → ab_i (ab_ip V 31 11 (nI (p + 1))) r k = ab_i V r k := fun r k q => by rw [hi_ip, if_neg q]
      have dr := dgs_r el m c (p + 1)
      obtain ⟨W, w1, w2, w3, w4, w5⟩ := m_l29 c (j + 1) (10 * a + dgv el p) (p + 1) (ab_ip V 31 11 (nI (p + 1))) (mtx.pfr (pfr_ip (by omega)) T) (by rw [hi_ip, if_pos ⟨rfl, rfl⟩]) (by omega) (by omega) (by rw [Nat.pow_succ]; omega) (by omega) F (by omega)
      have ev : nvN el (dgs el m c (p + 1) - p) p a = nvN el (dgs el m c (p + 1) - (p + 1)) (p + 1) (10 * a + dgv el p) := by
        rw [show dgs el m c (p + 1) - p = (dgs el m c (p + 1) - (p + 1)) + 1 by omega, nvN]
      rw [b, bI_t, if_neg (by decide), m_here T h (by omega), Option.bind_some, e, dg_step b, if_pos rfl, ev]
      refine ⟨W, ?_, (pfr_ip (by omega)).trans w2, w3, fun r k q => (w4 r k q).trans (o r k q), ?_⟩
      · unfold ab_let
        dsimp only
        rw [h, nI_1, nI_1, show j + (c + 1) = j + 1 + c by omega]
        exact w1
      · rw [show j + (c + 1) = j + 1 + c by omega]
        exact w5
    · rw [b, bI_f, if_pos rfl, if_neg Bool.false_ne_true, Nat.sub_self, nvN]
      exact ⟨V, rfl, pfr_refl V, h, fun _ _ _ => rfl, Nat.lt_of_lt_of_le ha (Nat.pow_le_pow_right (by decide) (by omega))⟩
  | _, _, _, _, _, _, _, _, _, _, _, 0, h => absurd h (Nat.not_lt_zero _)
theorem m_number (T : mtx V d m el) (h : ab_i V 31 11 = nI p) (hp : p < 1000) {t : Nat} (ht : t < 3) (h14 : ab_i V 31 14 = nI t) {k : Nat} (h1 : 1 ≤ k) (hk : k ≤ 4) : ∃ W, f_X12_readsNumber 31 (nI k) V = some (bI (bNum el m k (true, p)).1, W) ∧ pfr V W ∧ ab_i W 31 11 = nI (bNum el m k (true, p)).2 ∧ ((bNum el m k (true, p)).1 = true → ab_i W 31 14 = nI (t + 1) ∧ ab_i W 41 t = nI (nvN el ((bNum el m k (true, p)).2 - p) p 0) ∧ nvN el ((bNum el m k (true, p)).2 - p) p 0 < 10 ^ k ∧ ∀ r j, ¬ (r = 31 ∧ (j = 11 ∨ j = 14)) → ¬ (r = 41 ∧ j = t) → ab_i W r j = ab_i V r j) := by
  have hm := T.2.2.1
  have b2 : ab_in (nI t) 3 = true := in_nI (by omega) (by decide)
  have c2 : (nI t).toNatClampNeg = t := nI_clamp (by omega)
  obtain ⟨F, hF⟩ : ∃ F, (1000 : Nat) = F + 10 := ⟨990, rfl⟩
  -- the number is written down
  have b74 : ∀ (x : Int32) (W : ab_HP), pfr V W → (∀ r k, ¬ (r = 31 ∧ k = 11) → ab_i W r k = ab_i V r k) → f_X12_readsNumber_b74 31 x W = some (1, ab_ip (ab_ip W 41 t x) 31 14 (nI (t + 1))) := by
    intro x W A B
    have e14 : ab_i W 31 14 = nI t := (B 31 14 (by omega)).trans h14
    have q14 : ab_i (ab_ip W 41 t x) 31 14 = nI t := by rw [hi_ip, if_neg (by omega)]; exact e14
    unfold f_X12_readsNumber_b74 ab_let
    rw [A.2.2.1, T.1 16, mp_16, Option.bind_some, shp_41, e14, if_pos b2, c2]
    dsimp only
    rw [q14, nI_1]
  rw [f_X12_readsNumber, hF, m_isD T h (by omega), Option.bind_some]
  unfold bNum
  rw [if_pos (show ((true, p) : rT).1 = true from rfl)]
  rcases Bool.eq_false_or_eq_true (cD el m p) with b | b
  · have cv := cD_v b
    have e : mhv el m p = el p := if_pos cv.1
    have e0 : el p - 48 = nI (dgv el p) := by
      have := cv.2.1
      rw [this, n_lit 48, nx_sub (by omega)]
      congr 1
      omega
    have o : ∀ r k, ¬ (r = 31 ∧ k = 11) → ab_i (ab_ip V 31 11 (nI (p + 1))) r k = ab_i V r k := fun r k q => by rw [hi_ip, if_neg q]
    have A0 : pfr V (ab_ip V 31 11 (nI (p + 1))) := pfr_ip (by omega)
    rw [b, bI_t, if_neg (by decide), m_here T h (by omega), Option.bind_some, e, e0, if_pos rfl]
    unfold ab_let
    dsimp only
    rw [h, nI_1]
    have p10 : 10 ≤ 10 ^ k := by
      have := Nat.pow_le_pow_right (n := 10) (by decide) h1
      omega
    by_cases z : el p = 48
    · have g0 : dgv el p = 0 := by unfold dgv; rw [z]; rfl
      have l : f_X12_readsNumber_l29 31 (F + 10) (nI k) (nI (dgv el p)) 1 (ab_ip V 31 11 (nI (p + 1))) = f_X12_readsNumber_b74 31 (nI 0) (ab_ip V 31 11 (nI (p + 1))) := by
        rw [f_X12_readsNumber_l29, g0, if_pos (show nI 0 ≤ 0 by decide), ite_self]
      rw [l, b74 _ _ A0 o, if_pos z]
      refine ⟨_, rfl, (A0.trans (pfr_ip (by omega))).trans (pfr_ip (by omega)), ?_, fun _ => ⟨?_, ?_, ?_, ?_⟩⟩
      · rw [hi_ip, if_neg (by omega), hi_ip, if_neg (by omega), hi_ip, if_pos ⟨rfl, rfl⟩]
      · rw [hi_ip, if_pos ⟨rfl, rfl⟩]
      · rw [hi_ip, if_neg (by omega), hi_ip, if_pos ⟨rfl, rfl⟩, show p + 1 - p = 0 + 1 by omega, nvN, nvN, g0]
      · show nvN el (p + 1 - p) p 0 < 10 ^ k
        rw [show p + 1 - p = 0 + 1 by omega, nvN, nvN, g0]
        omega
      · intro r j q1 q2
        rw [hi_ip, if_neg (by omega), hi_ip, if_neg (by omega), hi_ip, if_neg (by omega)]
    · have g0 : 0 < dgv el p := by
        rcases Nat.eq_zero_or_pos (dgv el p) with g | g
        · exfalso
          apply z
          rw [cv.2.1, g]
          rfl
        · exact g
      have dr := dgs_r el m (k - 1) (p + 1)
      obtain ⟨W, w1, w2, w3, w4, w5⟩ := m_l29 (k - 1) 1 (dgv el p) (p + 1) (ab_ip V 31 11 (nI (p + 1))) (mtx.pfr A0 T) (by rw [hi_ip, if_pos ⟨rfl, rfl⟩]) (by omega) g0 (by show dgv el p < 10; omega) (by omega) (F + 10) (by omega)
      rw [show 1 + (k - 1) = k by omega, show nI 1 = (1 : Int32) from rfl] at w1
      rw [show 1 + (k - 1) = k by omega] at w5
      have ev : nvN el (dgs el m (k - 1) (p + 1) - p) p 0 = nvN el (dgs el m (k - 1) (p + 1) - (p + 1)) (p + 1) (dgv el p) := by
        rw [show dgs el m (k - 1) (p + 1) - p = (dgs el m (k - 1) (p + 1) - (p + 1)) + 1 by omega, nvN, Nat.mul_zero, Nat.zero_add]
      rw [w1, b74 _ _ (A0.trans w2) (fun r k q => (w4 r k q).trans (o r k q)), if_neg z]
      refine ⟨_, rfl, ((A0.trans w2).trans (pfr_ip (by omega))).trans (pfr_ip (by omega)), ?_, fun _ => ⟨?_, ?_, ?_, ?_⟩⟩
      · rw [hi_ip, if_neg (by omega), hi_ip, if_neg (by omega)]; exact w3
      · rw [hi_ip, if_pos ⟨rfl, rfl⟩]
      · rw [hi_ip, if_neg (by omega), hi_ip, if_pos ⟨rfl, rfl⟩, ev]
      · show nvN el (dgs el m (k - 1) (p + 1) - p) p 0 < 10 ^ k
        rw [ev]
        exact w5
      · intro r j q1 q2
        rw [hi_ip, if_neg (by omega), hi_ip, if_neg (by omega), w4 r j (by omega), o r j (by omega)]
  · rw [b, bI_f, if_pos rfl, if_neg Bool.false_ne_true]
    exact ⟨V, rfl, pfr_refl V, h, fun x => by cases x⟩
end
end PRM
