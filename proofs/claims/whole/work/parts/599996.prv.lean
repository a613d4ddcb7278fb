section PRV
section
variable {V : ab_HP} {d m p : Nat} {el : Nat → Int32}
theorem svs_0 {W : ab_HP} (c : Int32) (h : cS el m c p = true) (h99 : c = 99 → ab_i W 41 0 = nI (nvN el ((bNum el m 4 (true, p + 1)).2 - (p + 1)) (p + 1) 0) ∧ nvN el ((bNum el m 4 (true, p + 1)).2 - (p + 1)) (p + 1) 0 < 10000) (h100 : c = 100 → dvs el m (p + 1) W) (h108 : c = 108 → ab_i W 41 0 = nI (dgv el (p + 1))) (h109 : c = 109 → ab_i W 41 0 = el (p + 1) - 97) (h110 : c = 110 → ab_i W 41 0 = nI (nvN el ((bNum el m 2 (true, p + 1)).2 - (p + 1)) (p + 1) 0) ∧ nvN el ((bNum el m 2 (true, p + 1)).2 - (p + 1)) (p + 1) 0 < 100 ∧ ab_i W 41 1 = if cS el m 45 ((bNum el m 2 (true, p + 1)).2 + 1) = true then -(nI (dgv el ((bNum el m 2 (true, p + 1)).2 + 2))) else nI (dgv el ((bNum el m 2 (true, p + 1)).2 + 2))) : svs el m p W :=
  ⟨fun x => h99 (cS_2 h x), fun x => h100 (cS_2 h x), fun x => h108 (cS_2 h x), fun x => h109 (cS_2 h x), fun x => h110 (cS_2 h x)⟩
theorem m_b42 (T : mtx V d m el) (h : ab_i V 31 11 = nI p) (h14 : ab_i V 31 14 = nI 0) (hp : p < 700) {c : Int32} (hc : cS el m c p = true) (h5 : c = 99 ∨ c = 100 ∨ c = 108 ∨ c = 109 ∨ c = 110) : ∃ W, f_X12_readsStatement_b42 31 c V = some (bI (bStmt el m p).1, W) ∧ pfr V W ∧ ab_i W 31 11 = nI (bStmt el m p).2 ∧ ((bStmt el m p).1 = true → svs el m p W) := by
  have P11 : ab_i (ab_ip V 31 11 (nI (p + 1))) 31 11 = nI (p + 1) := by rw [hi_ip, if_pos ⟨rfl, rfl⟩]
  have P14 : ab_i (ab_ip V 31 11 (nI (p + 1))) 31 14 = nI 0 := by rw [hi_ip, if_neg (by omega)]; exact h14
  have A0 : pfr V (ab_ip V 31 11 (nI (p + 1))) := pfr_ip (by omega)
  have TP := mtx.pfr A0 T
  have no : ∀ c', c' ≠ c → ¬ cS el m c' p = true := fun c' hne x => hne (cS_2 x hc)
  have r0 : ((true, p + 1) : rT).2 = p + 1 := rfl
  unfold f_X12_readsStatement_b42 ab_let
  dsimp only
  rw [h, nI_1]
  rcases h5 with e | e | e | e | e
  · subst e
    obtain ⟨W1, a1, a2, a3, a4⟩ := m_number TP P11 (by omega) (t := 0) (by decide) P14 (k := 4) (by decide) (by decide)
    rw [show nI 4 = (4 : Int32) from rfl] at a1
    have nr := bNum_r el m (k := 4) (by decide) (true, p + 1)
    obtain ⟨X, x1, x2, x3, x4⟩ := m_211 (mtx.pfr a2 TP) a3 (by omega)
    have eb : bStmt el m p = bSign el m 59 (bNum el m 4 (true, p + 1)) := by unfold bStmt; rw [if_pos hc]
    rw [if_pos rfl, a1, Option.bind_some, eb]
    refine ⟨X, x1, (A0.trans a2).trans x2, x3, fun y => svs_0 99 hc (fun _ => ?_) (fun z => absurd z (by decide)) (fun z => absurd z (by decide)) (fun z => absurd z (by decide)) (fun z => absurd z (by decide))⟩
    obtain ⟨b5, b6, b7, b8⟩ := a4 (bSign_t el m y).1
    exact ⟨by rw [x4 41 0 (by omega)]; exact b6, b7⟩
  · subst e
    obtain ⟨W1, a1, a2, a3, a4⟩ := m_deed TP P11 P14 (by omega)
    have nr := bDeed_r el m (true, p + 1)
    obtain ⟨X, x1, x2, x3, x4⟩ := m_211 (mtx.pfr a2 TP) a3 (by omega)
    have eb : bStmt el m p = bSign el m 59 (bDeed el m (true, p + 1)) := by unfold bStmt; rw [if_neg (no 99 (by decide)), if_pos hc]
    rw [if_neg (by decide), if_pos rfl, a1, Option.bind_some, eb]
    refine ⟨X, x1, (A0.trans a2).trans x2, x3, fun y => svs_0 100 hc (fun z => absurd z (by decide)) (fun _ => ?_) (fun z => absurd z (by decide)) (fun z => absurd z (by decide)) (fun z => absurd z (by decide))⟩
    obtain ⟨b1, b2, b3, b4, b5⟩ := a4 (bSign_t el m y).1
    exact ⟨by rw [x4 31 17 (by omega)]; exact b1, by rw [x4 31 15 (by omega)]; exact b2, by rw [x4 41 0 (by omega)]; exact b3, by rw [x4 41 1 (by omega)]; exact b4, by rw [x4 31 18 (by omega)]; exact b5⟩
  · subst e
    obtain ⟨W1, a1, a2, a3, a4⟩ := m_number TP P11 (by omega) (t := 0) (by decide) P14 (k := 1) (by decide) (by decide)
    rw [show nI 1 = (1 : Int32) from rfl] at a1
    rw [bNum_1] at a1 a3 a4
    have nr := bDig_r el m (true, p + 1)
    obtain ⟨X, x1, x2, x3, x4⟩ := m_211 (mtx.pfr a2 TP) a3 (by omega)
    have eb : bStmt el m p = bSign el m 59 (bDig el m (true, p + 1)) := by unfold bStmt; rw [if_neg (no 99 (by decide)), if_neg (no 100 (by decide)), if_pos hc]
    rw [if_neg (by decide), if_neg (by decide), if_pos rfl, a1, Option.bind_some, eb]
    refine ⟨X, x1, (A0.trans a2).trans x2, x3, fun y => svs_0 108 hc (fun z => absurd z (by decide)) (fun z => absurd z (by decide)) (fun _ => ?_) (fun z => absurd z (by decide)) (fun z => absurd z (by decide))⟩
    have s := (bSign_t el m y).1
    obtain ⟨b5, b6, b7, b8⟩ := a4 s
    rw [(bDig_2 s).2.2, show ((true, p + 1) : rT).2 + 1 - (p + 1) = 0 + 1 by show p + 1 + 1 - (p + 1) = 0 + 1; omega, nvN, nvN, Nat.mul_zero, Nat.zero_add] at b6
    rw [x4 41 0 (by omega)]
    exact b6
  · subst e
    obtain ⟨W1, a1, a2, a3, a4⟩ := m_mark TP P11 (by omega) (t := 0) (by decide) P14
    have nr := bLet_r el m (true, p + 1)
    obtain ⟨X, x1, x2, x3, x4⟩ := m_211 (mtx.pfr a2 TP) a3 (by omega)
    have eb : bStmt el m p = bSign el m 59 (bLet el m (true, p + 1)) := by unfold bStmt; rw [if_neg (no 99 (by decide)), if_neg (no 100 (by decide)), if_neg (no 108 (by decide)), if_pos hc]
    rw [if_neg (by decide), if_neg (by decide), if_neg (by decide), if_pos rfl, a1, Option.bind_some, eb]
    refine ⟨X, x1, (A0.trans a2).trans x2, x3, fun y => svs_0 109 hc (fun z => absurd z (by decide)) (fun z => absurd z (by decide)) (fun z => absurd z (by decide)) (fun _ => ?_) (fun z => absurd z (by decide))⟩
    obtain ⟨b5, b6, b7⟩ := a4 (bSign_t el m y).1
    rw [x4 41 0 (by omega)]
    exact b6
  · subst e
    obtain ⟨W1, a1, a2, a3, a4⟩ := m_nail TP P11 P14 (by omega)
    have eb : bStmt el m p = bSign el m 59 (bNail el m (true, p + 1)) := by unfold bStmt; rw [if_neg (no 99 (by decide)), if_neg (no 100 (by decide)), if_neg (no 108 (by decide)), if_neg (no 109 (by decide)), if_pos hc]
    rw [if_neg (by decide), if_neg (by decide), if_neg (by decide), if_neg (by decide), eb]
    exact ⟨W1, a1, A0.trans a2, a3, fun y => svs_0 110 hc (fun z => absurd z (by decide)) (fun z => absurd z (by decide)) (fun z => absurd z (by decide)) (fun z => absurd z (by decide)) (fun _ => a4 y)⟩
/-- the Model reads a statement -/
theorem m_stmt (T : mtx V d m el) (h : ab_i V 31 11 = nI p) (hp : p < 700) : ∃ W, f_X12_readsStatement 31 V = some (bI (bStmt el m p).1, W) ∧ pfr V W ∧ ab_i W 31 11 = nI (bStmt el m p).2 ∧ ((bStmt el m p).1 = true → svs el m p W) := by
  have A0 : pfr V (ab_ip V 31 14 0) := pfr_ip (by omega)
  have P11 : ab_i (ab_ip V 31 14 0) 31 11 = nI p := by rw [hi_ip, if_neg (by omega)]; exact h
  have P14 : ab_i (ab_ip V 31 14 0) 31 14 = nI 0 := by rw [hi_ip, if_pos ⟨rfl, rfl⟩]; rfl
  have TP := mtx.pfr A0 T
  have go : ∀ c, cS el m c p = true → (c = 99 ∨ c = 100 ∨ c = 108 ∨ c = 109 ∨ c = 110) → ∃ W, f_X12_readsStatement_b42 31 c (ab_ip V 31 14 0) = some (bI (bStmt el m p).1, W) ∧ pfr V W ∧ ab_i W 31 11 = nI (bStmt el m p).2 ∧ ((bStmt el m p).1 = true → svs el m p W) := fun c hc h5 => by
    obtain ⟨W, w1, w2, w3, w4⟩ := m_b42 TP P11 P14 hp hc h5
    exact ⟨W, w1, A0.trans w2, w3, w4⟩
  unfold f_X12_readsStatement ab_let
  rw [m_here T h (by omega), Option.bind_some]
  dsimp only
  by_cases a1 : cS el m 100 p = true
  · have e : mhv el m p = 100 := (mhv_eq el m p (by decide)).mpr a1
    rw [e, if_pos rfl]
    exact go 100 a1 (by simp)
  rw [if_neg (fun x => a1 ((mhv_eq el m p (by decide)).mp x))]
  by_cases a2 : cS el m 109 p = true
  · have e : mhv el m p = 109 := (mhv_eq el m p (by decide)).mpr a2
    rw [e, if_pos rfl]
    exact go 109 a2 (by simp)
  rw [if_neg (fun x => a2 ((mhv_eq el m p (by decide)).mp x))]
  by_cases a3 : cS el m 99 p = true
  · have e : mhv el m p = 99 := (mhv_eq el m p (by decide)).mpr a3
    rw [e, if_pos rfl]
    exact go 99 a3 (by simp)
  rw [if_neg (fun x => a3 ((mhv_eq el m p (by decide)).mp x))]
  by_cases a4 : cS el m 110 p = true
  · have e : mhv el m p = 110 := (mhv_eq el m p (by decide)).mpr a4
    rw [e, if_pos rfl]
    exact go 110 a4 (by simp)
  rw [if_neg (fun x => a4 ((mhv_eq el m p (by decide)).mp x))]
  by_cases a5 : cS el m 108 p = true
  · have e : mhv el m p = 108 := (mhv_eq el m p (by decide)).mpr a5
    rw [e, if_pos rfl]
    exact go 108 a5 (by simp)
  rw [if_neg (fun x => a5 ((mhv_eq el m p (by decide)).mp x))]
  have eb : bStmt el m p = (false, p) := by unfold bStmt; rw [if_neg a3, if_neg a1, if_neg a5, if_neg a2, if_neg a4]
  rw [eb]
  exact ⟨_, rfl, A0, P11, fun x => absurd x Bool.false_ne_true⟩
end
end PRV
