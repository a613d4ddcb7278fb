section PRT
section
variable {V : ab_HP} {d m p : Nat} {el : Nat → Int32}
/-- what a DEED's text told -/
def dvs (el : Nat → Int32) (m p : Nat) (W : ab_HP) : Prop := ab_i W 31 17 = nI (dgv el p) ∧ ab_i W 31 15 = lts el (nds el m 10 0 (p + 1) - (p + 1)) (p + 1) 0 ∧ ab_i W 41 0 = el (nds el m 10 0 (p + 1) + 1) - 97 ∧ ab_i W 41 1 = nI (nvN el ((bNum el m 2 (true, nds el m 10 0 (p + 1) + 2)).2 - (nds el m 10 0 (p + 1) + 2)) (nds el m 10 0 (p + 1) + 2) 0) ∧ ab_i W 31 18 = nI (dgv el ((bNum el m 2 (true, nds el m 10 0 (p + 1) + 2)).2 + 1))
theorem bDig_2 {r : rT} (h : (bDig el m r).1 = true) : r.1 = true ∧ cD el m r.2 = true ∧ (bDig el m r).2 = r.2 + 1 := by
  unfold bDig at h ⊢
  by_cases a : r.1 = true
  · rw [if_pos a] at h ⊢
    by_cases b : cD el m r.2 = true
    · rw [if_pos b]; exact ⟨a, b, rfl⟩
    · rw [if_neg b] at h; cases h
  · rw [if_neg a] at h; exact absurd h a
theorem m_deed (T : mtx V d m el) (h : ab_i V 31 11 = nI p) (h14 : ab_i V 31 14 = nI 0) (hp : p < 800) : ∃ W, f_X12_readsDeed 31 V = some (bI (bDeed el m (true, p)).1, W) ∧ pfr V W ∧ ab_i W 31 11 = nI (bDeed el m (true, p)).2 ∧ ((bDeed el m (true, p)).1 = true → dvs el m p W) := by
  obtain ⟨W1, a1, a2, a3, a4⟩ := m_number T h (by omega) (t := 0) (by decide) h14 (k := 1) (by decide) (by decide)
  rw [show nI 1 = (1 : Int32) from rfl] at a1
  rw [bNum_1] at a1 a3 a4
  have T1 := mtx.pfr a2 T
  obtain ⟨F, hF⟩ : ∃ F, (1000 : Nat) = F + 1 + 10 := ⟨989, rfl⟩
  rw [f_X12_readsDeed, hF, a1, Option.bind_some]
  unfold bDeed
  by_cases s1 : (bDig el m (true, p)).1 = true
  rotate_left
  · rw [bNeeds_f el m s1, bSign_f el m 32 s1, bLet_f el m s1, bNum_f el m 2 s1, bSign_f el m 32 s1, bDig_f el m s1]
    have e0 : (bDig el m (true, p)).1 = false := by simpa using s1
    rw [e0, bI_f]
    exact ⟨W1, if_pos rfl, a2, a3, fun x => by cases x⟩
  obtain ⟨a5, a6, a7, a8⟩ := a4 s1
  have d1 := bDig_2 s1
  have d2 : (bDig el m (true, p)).2 = p + 1 := d1.2.2
  rw [d2, show p + 1 - p = 0 + 1 by omega, nvN, nvN, Nat.mul_zero, Nat.zero_add] at a6
  rw [rT_t s1, d2] at a3 ⊢
  have nb : bNeeds el m (true, p + 1) = (true, nds el m 10 0 (p + 1)) := by unfold bNeeds; rw [if_pos rfl]
  have nr := nds_r el m 10 0 (p + 1)
  rw [nb]
  have o : ∀ r j, ¬ (r = 31 ∧ (j = 15 ∨ j = 17)) → ab_i (ab_ip (ab_ip W1 31 17 (nI (dgv el p))) 31 15 0) r j = ab_i W1 r j := fun r j q => by rw [hi_ip, if_neg (by omega), hi_ip, if_neg (by omega)]
  have A0 : pfr W1 (ab_ip (ab_ip W1 31 17 (nI (dgv el p))) 31 15 0) := (pfr_ip (by omega)).trans (pfr_ip (by omega))
  obtain ⟨W2, b1, b2, b3, b4, b5⟩ := m_l27 (el := el) (d := d) (m := m) F 10 0 (-1) 0 0 (p + 1) (ab_ip (ab_ip W1 31 17 (nI (dgv el p))) 31 15 0) (by omega) (Or.inl ⟨rfl, rfl, rfl⟩) (mtx.pfr A0 T1) ((o 31 11 (by omega)).trans a3) (by rw [hi_ip, if_pos ⟨rfl, rfl⟩]) (by omega)
  obtain ⟨W3, c1, c2, c3, c4⟩ := m_ntail (mtx.pfr b2 (mtx.pfr A0 T1)) b3 (by omega)
  refine ⟨W3, ?_, ((a2.trans A0).trans b2).trans c2, c3, fun x => ?_⟩
  · rw [show bI ((true, p + 1) : rT).1 = 1 from rfl, if_neg one_n0, a2.2.2.1, T.1 16, mp_16, Option.bind_some, shp_41, if_pos (by decide), lit_c0, a6]
    exact b1.trans c1
  · obtain ⟨e1, e2, e3, e4, e5⟩ := c4 x
    refine ⟨?_, ?_, e1, e2, e3⟩
    · rw [e5, b5 31 17 (by omega), hi_ip, if_neg (by omega), hi_ip, if_pos ⟨rfl, rfl⟩]
    · rw [e4, b4]
theorem m_211 {W : ab_HP} {r : rT} (T : mtx W d m el) (h : ab_i W 31 11 = nI r.2) (hp : r.2 < 1500) : ∃ X, f_X12_readsStatement_b211 31 (bI r.1) W = some (bI (bSign el m 59 r).1, X) ∧ pfr W X ∧ ab_i X 31 11 = nI (bSign el m 59 r).2 ∧ ∀ a k, ¬ (a = 31 ∧ k = 11) → ab_i X a k = ab_i W a k := by
  unfold f_X12_readsStatement_b211
  by_cases a : r.1 = true
  · obtain ⟨X, x1, x2, x3, x4⟩ := m_takes T h (by omega) (c := 59) (by decide)
    rw [rT_t a, show bI ((true, r.2) : rT).1 = 1 from rfl, if_neg (by decide), x1, Option.bind_some]
    refine ⟨X, ?_, x2, x3, x4⟩
    rcases Bool.eq_false_or_eq_true (bSign el m 59 (true, r.2)).1 with b | b
    · rw [b]; rfl
    · rw [b]; rfl
  · have e0 : r.1 = false := by simpa using a
    rw [bSign_f el m 59 a, e0, bI_f]
    exact ⟨W, if_pos rfl, pfr_refl W, h, fun _ _ _ => rfl⟩
/-- what a statement's text told -/
def svs (el : Nat → Int32) (m p : Nat) (W : ab_HP) : Prop := (cS el m 99 p = true → ab_i W 41 0 = nI (nvN el ((bNum el m 4 (true, p + 1)).2 - (p + 1)) (p + 1) 0) ∧ nvN el ((bNum el m 4 (true, p + 1)).2 - (p + 1)) (p + 1) 0 < 10000) ∧ (cS el m 100 p = true → dvs el m (p + 1) W) ∧ (cS el m 108 p = true → ab_i W 41 0 = nI (dgv el (p + 1))) ∧ (cS el m 109 p = true → ab_i W 41 0 = el (p + 1) - 97) ∧ (cS el m 110 p = true → ab_i W 41 0 = nI (nvN el ((bNum el m 2 (true, p + 1)).2 - (p + 1)) (p + 1) 0) ∧ nvN el ((bNum el m 2 (true, p + 1)).2 - (p + 1)) (p + 1) 0 < 100 ∧ ab_i W 41 1 = if cS el m 45 ((bNum el m 2 (true, p + 1)).2 + 1) = true then -(nI (dgv el ((bNum el m 2 (true, p + 1)).2 + 2))) else nI (dgv el ((bNum el m 2 (true, p + 1)).2 + 2)))
theorem cS_2 {c c' : Int32} (h : cS el m c p = true) (h' : cS el m c' p = true) : c = c' := by
  unfold cS at h h'
  rw [Bool.and_eq_true, decide_eq_true_eq, decide_eq_true_eq] at h h'
  exact h.2.symm.trans h'.2
theorem cS_e {c : Int32} (h : cS el m c p = true) : p < m ∧ el p = c := by
  unfold cS at h
  rw [Bool.and_eq_true, decide_eq_true_eq, decide_eq_true_eq] at h
  exact h
end
end PRT
