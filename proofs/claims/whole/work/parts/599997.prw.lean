section PRW
section
variable {V : ab_HP} {d m : Nat} {el : Nat → Int32}
/-- the Model's first going through -/
theorem m_ps1 : ∀ (f n p : Nat) (V : ab_HP), n ≤ p → (p < m ∨ (n = 0 ∧ p = 0)) → p ≤ 100 → m + 1 ≤ p + f → mtx V d m el → ab_i V 31 11 = nI p → ∀ F, f < F → ∃ W, f_X12_town_l38 31 F (nI n) V = (if (ps1 el m f n p).1 = true then f_X12_town_l71 31 1000 (nI (ps1 el m f n p).2) 0 W else some (-1000 - nI (ps1 el m f n p).2, W)) ∧ pfr V W
  | 0, n, p, V, h1, h2, h3, h4, T, h, F, _ => by
    exfalso
    have hm := T.2.2.1
    omega
  | f + 1, n, p, V, h1, h2, h3, h4, T, h, F + 1, hF => by
    have hm := T.2.2.1
    have br := bStmt_r el m p
    obtain ⟨W1, a1, a2, a3, a4⟩ := m_stmt T h (by omega)
    have T1 := mtx.pfr a2 T
    rw [f_X12_town_l38, a1, Option.bind_some, ps1]
    by_cases a : (bStmt el m p).1 = true
    · have b3 := br.2.2 a
      have e1 : bI (bStmt el m p).1 = 1 := by rw [a]; rfl
      rw [e1, if_neg one_n0, if_pos a, a3, T1.2.2.2.2.1, nI_1]
      by_cases b : (bStmt el m p).2 < m
      · rw [if_pos b, if_pos (nI_lt b (by omega))]
        obtain ⟨W, w1, w2⟩ := m_ps1 f (n + 1) (bStmt el m p).2 W1 (by omega) (Or.inl b) (by omega) (by omega) T1 a3 F (by omega)
        exact ⟨W, w1, a2.trans w2⟩
      · rw [if_neg b, if_neg (nI_nlt (by omega) (by omega))]
        refine ⟨W1, ?_, a2⟩
        rw [if_pos (show ((true, n + 1) : rT).1 = true from rfl)]
    · have e0 : (bStmt el m p).1 = false := by simpa using a
      rw [e0, bI_f, if_pos rfl, if_neg Bool.false_ne_true, a3]
      refine ⟨W1, ?_, a2⟩
      rw [if_neg (show ¬ ((false, (bStmt el m p).2) : rT).1 = true from Bool.false_ne_true)]
  | _, _, _, _, _, _, _, _, _, _, 0, h => absurd h (Nat.not_lt_zero _)
end
theorem m_l71 (i3 : Int32) : ∀ (c k : Nat) (g : ab_HP), mp g → k + c = 47 → ∀ f, c < f → f_X12_town_l71 31 f i3 (nI k) g = f_X12_town_l103 31 1000 i3 (ab_ip (hk 32 34 c k g) 31 11 0)
  | 0, k, g, hp, e, f + 1, _ => by
    have e : k = 47 := by omega
    subst e
    rw [f_X12_town_l71, if_pos (show (47 : Int32) ≤ nI 47 by decide)]
    rfl
  | c + 1, k, g, hp, e, f + 1, hf => by
    have q : ab_in (nI k) 47 = true := in_nI (by omega) (by decide)
    have qc : (nI k).toNatClampNeg = k := nI_clamp (by omega)
    have h2 : ¬ (47 : Int32) ≤ nI k := nI_ge (b := 47) (by omega) (by decide)
    rw [f_X12_town_l71, if_neg h2, hp 0, mp_0, Option.bind_some, shp_32, if_pos q, hp 2, mp_2, Option.bind_some, shp_34, if_pos q, qc]
    unfold ab_let
    dsimp only
    rw [nI_1, m_l71 i3 c (k + 1) _ (mp_ip hp _ _ _) (by omega) f (by omega)]
    rfl
  | _, _, _, _, _, 0, h => absurd h (Nat.not_lt_zero _)
theorem m_l154 (i3 : Int32) : ∀ (c k : Nat) (g : ab_HP), mp g → k + c = 47 → ∀ f, c < f → f_X12_town_l154 31 f i3 (nI k) g = some (i3, hk 34 32 c k g)
  | 0, k, g, hp, e, f + 1, _ => by
    have e : k = 47 := by omega
    subst e
    rw [f_X12_town_l154, if_pos (show (47 : Int32) ≤ nI 47 by decide)]
    rfl
  | c + 1, k, g, hp, e, f + 1, hf => by
    have q : ab_in (nI k) 47 = true := in_nI (by omega) (by decide)
    have qc : (nI k).toNatClampNeg = k := nI_clamp (by omega)
    have h2 : ¬ (47 : Int32) ≤ nI k := nI_ge (b := 47) (by omega) (by decide)
    rw [f_X12_town_l154, if_neg h2, hp 2, mp_2, Option.bind_some, shp_34, if_pos q, hp 0, mp_0, Option.bind_some, shp_32, if_pos q, qc]
    unfold ab_let
    dsimp only
    rw [nI_1, m_l154 i3 c (k + 1) _ (mp_ip hp _ _ _) (by omega) f (by omega)]
    rfl
  | _, _, _, _, _, 0, h => absurd h (Nat.not_lt_zero _)
/-! the second going through: the class's numbers -/
section
variable {U : ab_HP} {d m : Nat} {el : Nat → Int32}
theorem dgs_D (el : Nat → Int32) (m : Nat) : ∀ (c p j : Nat), p ≤ j → j < dgs el m c p → cD el m j = true
  | 0, p, j, h1, h2 => by rw [dgs] at h2; omega
  | c + 1, p, j, h1, h2 => by
    rw [dgs] at h2
    by_cases a : cD el m p = true
    · rw [if_pos a] at h2
      by_cases e : j = p
      · rw [e]; exact a
      · exact dgs_D el m c (p + 1) j (by omega) h2
    · rw [if_neg a] at h2
      omega
theorem bNum_D {k p : Nat} (h : (bNum el m k (true, p)).1 = true) : ∀ j, p ≤ j → j < (bNum el m k (true, p)).2 → cD el m j = true := by
  intro j h1 h2
  unfold bNum at h h2
  rw [if_pos (show ((true, p) : rT).1 = true from rfl)] at h h2
  by_cases a : cD el m p = true
  · rw [if_pos a] at h h2
    by_cases e : j = p
    · rw [e]; exact a
    · by_cases z : el p = 48
      · rw [if_pos z] at h2
        have h2 : j < p + 1 := h2
        omega
      · rw [if_neg z] at h2
        exact dgs_D el m (k - 1) (p + 1) j (by omega) h2
  · rw [if_neg a] at h
    cases h
theorem cS_nD {c : Int32} {p : Nat} (hc : c = 59 ∨ c = 32) (h : el p = c) : ¬ cD el m p = true := by
  intro x
  unfold cD at x
  rw [Bool.and_eq_true, decide_eq_true_eq, decide_eq_true_eq, h] at x
  rcases hc with e | e <;> rw [e] at x <;> exact absurd x.2 (by decide)
theorem c_num (T : txt U d m el) : ∀ (c p a : Nat), (∀ j, p ≤ j → j < p + c → cD el m j = true) → ¬ cD el m (p + c) = true → p + c < 2000 → ∀ F, c < F → f_X9_number_l4 F (some (15 + 2 * d)) (nI a) (nI p) U = some (nI (nvN el c p a))
  | 0, p, a, h1, h2, hp, F + 1, _ => by
    have es := T.2.2.2.1
    have h2 : ¬ cD el m p = true := h2
    have hm := T.2.2.1
    rw [f_X9_number_l4, Option.bind_some, es, nvN]
    by_cases q : m ≤ p
    · rw [if_pos (nI_le q (by omega))]
    · have b : cD el m p = false := by simpa using h2
      rw [if_neg (nI_ge (by omega) (by omega)), c_rdv T (by omega), Option.bind_some, c_isD, Option.bind_some, b, bI_f, if_pos rfl]
  | c + 1, p, a, h1, h2, hp, F + 1, hF => by
    have es := T.2.2.2.1
    have hm := T.2.2.1
    have b := h1 p (Nat.le_refl _) (by omega)
    have cv := cD_v b
    have rv : rdv el m p = el p := if_pos cv.1
    have rd := c_rdv T (show p < 2 ^ 31 by omega)
    have id := c_isD el m p U
    rw [rv] at rd id
    rw [f_X9_number_l4, Option.bind_some, es, if_neg (nI_ge cv.1 (by omega)), rd, Option.bind_some, id, Option.bind_some, b, bI_t, if_neg one_n0, Option.bind_some, nvN]
    unfold ab_let
    dsimp only
    rw [dg_step b, nI_1]
    exact c_num T c (p + 1) (10 * a + dgv el p) (fun j h3 h4 => h1 j (by omega) (by omega)) (by rw [show p + 1 + c = p + (c + 1) by omega]; exact h2) (by omega) F (by omega)
  | _, _, _, _, _, _, 0, h => absurd h (Nat.not_lt_zero _)
/-- a number that a sign follows -/
theorem c_number (T : txt U d m el) {k p : Nat} (h1 : 1 ≤ k) (hk : k ≤ 4) (hp : p < 1000) (h : (bNum el m k (true, p)).1 = true) (hn : ¬ cD el m (bNum el m k (true, p)).2 = true) : f_X9_number (some (15 + 2 * d)) (nI p) U = some (nI (nvN el ((bNum el m k (true, p)).2 - p) p 0)) := by
  have nr := bNum_r el m h1 (true, p)
  have e0 : ((true, p) : rT).2 = p := rfl
  obtain ⟨F, hF⟩ : ∃ F, (1000 : Nat) = F + 10 := ⟨990, rfl⟩
  have := c_num T ((bNum el m k (true, p)).2 - p) p 0 (fun j h3 h4 => bNum_D h j h3 (by omega)) (by rw [show p + ((bNum el m k (true, p)).2 - p) = (bNum el m k (true, p)).2 by omega]; exact hn) (by omega) (F + 10) (by omega)
  rw [f_X9_number, hF]
  exact this
end
end PRW
