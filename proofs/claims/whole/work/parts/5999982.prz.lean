section PRZ
section
variable {U V : ab_HP} {d m p : Nat} {el : Nat → Int32}
theorem bLet_2 {r : rT} (h : (bLet el m r).1 = true) : r.1 = true ∧ cL el m r.2 = true ∧ (bLet el m r).2 = r.2 + 1 := by
  unfold bLet at h ⊢
  by_cases a : r.1 = true
  · rw [if_pos a] at h ⊢
    by_cases b : cL el m r.2 = true
    · rw [if_pos b]; exact ⟨a, b, rfl⟩
    · rw [if_neg b] at h; exact absurd h Bool.false_ne_true
  · rw [if_neg a] at h; exact absurd h a
theorem nds_L (el : Nat → Int32) (m : Nat) : ∀ (n : Nat) (last : Int32) (p i : Nat), p ≤ i → i < nds el m n last p → cL el m i = true
  | 0, last, p, i, h1, h2 => by rw [nds] at h2; omega
  | n + 1, last, p, i, h1, h2 => by
    rw [nds] at h2
    by_cases a : cL el m p = true ∧ last < el p
    · rw [if_pos a] at h2
      by_cases e : i = p
      · rw [e]; exact a.1
      · exact nds_L el m n (el p) (p + 1) i (by omega) h2
    · rw [if_neg a] at h2
      omega
theorem lts_b : ∀ (c p : Nat) (a : Int32), (∀ i, p ≤ i → i < p + c → cL el m i = true) → (∀ j, 10 ≤ j → j < 32 → bt a j = false) → ∀ j, 10 ≤ j → j < 32 → bt (lts el c p a) j = false
  | 0, p, a, h1, h2, j, j1, j2 => by rw [lts]; exact h2 j j1 j2
  | c + 1, p, a, h1, h2, j, j1, j2 => by
    rw [lts]
    refine lts_b c (p + 1) _ (fun i i1 i2 => h1 i (by omega) (by omega)) (fun i i1 i2 => ?_) j j1 j2
    obtain ⟨x, x1, x2, x3⟩ := cL_v (h1 p (Nat.le_refl _) (by omega))
    rw [x3, show nI (97 + x) - 97 = nI x by rw [n_lit 97, nx_sub (by omega)]; congr 1; omega, bt_orp _ (by omega) i2, h2 i i1 i2, Bool.false_or, decide_eq_false (by omega)]
theorem nvN_lt : ∀ (c p a : Nat), (∀ j, p ≤ j → j < p + c → cD el m j = true) → nvN el c p a < (a + 1) * 10 ^ c
  | 0, p, a, h => by rw [nvN]; omega
  | c + 1, p, a, h => by
    rw [nvN]
    have := nvN_lt c (p + 1) (10 * a + dgv el p) (fun j j1 j2 => h j (by omega) (by omega))
    have v := (cD_v (h p (Nat.le_refl _) (by omega))).2.2
    refine Nat.lt_of_lt_of_le this ?_
    rw [Nat.pow_succ, Nat.mul_comm (10 ^ c) 10, ← Nat.mul_assoc]
    exact Nat.mul_le_mul_right _ (by omega)
theorem deed_ch (k : cS el m 100 p = true) (hs : (bStmt el m p).1 = true) : ∃ q e, nds el m 10 0 (p + 2) = q ∧ (bNum el m 2 (true, q + 2)).2 = e ∧ cD el m (p + 1) = true ∧ p + 2 ≤ q ∧ q ≤ p + 12 ∧ q < m ∧ el q = 32 ∧ cL el m (q + 1) = true ∧ (bNum el m 2 (true, q + 2)).1 = true ∧ e ≤ q + 4 ∧ q + 2 ≤ e ∧ el e = 32 ∧ cD el m (e + 1) = true ∧ el (e + 2) = 59 := by
  have no : ¬ cS el m 99 p = true := fun x => absurd (cS_2 x k) (by decide)
  have eb : bStmt el m p = bSign el m 59 (bDeed el m (true, p + 1)) := by unfold bStmt; rw [if_neg no, if_pos k]
  rw [eb] at hs
  have a8 := bSign_t el m hs
  unfold bDeed at a8
  have a7 := bDig_2 a8.1
  have a6 := bSign_t el m a7.1
  have a5 : (bLet el m (bSign el m 32 (bNeeds el m (bDig el m (true, p + 1))))).1 = true := by
    by_cases x : (bLet el m (bSign el m 32 (bNeeds el m (bDig el m (true, p + 1))))).1 = true
    · exact x
    · have y := a6.1
      rw [bNum_f el m 2 x] at y
      exact y
  have a4 := bLet_2 a5
  have a3 := bSign_t el m a4.1
  have a2 : (bDig el m (true, p + 1)).1 = true := by
    by_cases x : (bDig el m (true, p + 1)).1 = true
    · exact x
    · have y := a3.1
      rw [bNeeds_f el m x] at y
      exact y
  have a1 := bDig_2 a2
  have e1 : bDig el m (true, p + 1) = (true, p + 2) := by rw [rT_t a2, a1.2.2]
  have e2 : bNeeds el m (true, p + 2) = (true, nds el m 10 0 (p + 2)) := by unfold bNeeds; rw [if_pos rfl]
  obtain ⟨q, hq⟩ : ∃ q, nds el m 10 0 (p + 2) = q := ⟨_, rfl⟩
  have nq := nds_r el m 10 0 (p + 2)
  rw [hq] at e2 nq
  rw [e1, e2] at a3 a4 a5 a6 a7 a8
  have e3 : bSign el m 32 (true, q) = (true, q + 1) := by rw [rT_t a4.1, a3.2.2.2]
  rw [e3] at a4 a5 a6 a7 a8
  have e4 : bLet el m (true, q + 1) = (true, q + 2) := by rw [rT_t a5, a4.2.2]
  rw [e4] at a6 a7 a8
  obtain ⟨e, he⟩ : ∃ e, (bNum el m 2 (true, q + 2)).2 = e := ⟨_, rfl⟩
  have ne := bNum_r el m (k := 2) (by decide) (true, q + 2)
  rw [he] at a6 ne
  have ne0 : ((true, q + 2) : rT).2 = q + 2 := rfl
  have e6 : (bSign el m 32 (bNum el m 2 (true, q + 2))).2 = e + 1 := a6.2.2.2
  have a72 := a7.2.2
  have a71 := a7.2.1
  have a82 := a8.2.2.1
  rw [a72] at a82
  rw [e6] at a71 a82
  exact ⟨q, e, hq, he, a1.2.1, nq.1, nq.2, a3.2.1, a3.2.2.1, a4.2.1, a6.1, by omega, by omega, a6.2.2.1, a71, a82⟩
theorem c_l16 (T : txt U d m el) (i2 : Int32) (q : Nat) (hq : q < 2000) : ∀ (c j : Nat) (a : Int32) (F : Nat), j + c = q → (∀ i, j ≤ i → i < q → cL el m i = true) → f_X9_newDeed_l16 5 (F + c) (some (15 + 2 * d)) i2 (nI q) a (nI j) U = f_X9_newDeed_l16 5 F (some (15 + 2 * d)) i2 (nI q) (lts el c j a) (nI q) U
  | 0, j, a, F, e, h => by
    have e : j = q := by omega
    subst e
    rfl
  | c + 1, j, a, F, e, h => by
    obtain ⟨x, x1, x2, x3⟩ := cL_v (h j (Nat.le_refl _) (by omega))
    have rv : rdv el m j = el j := if_pos x2
    rw [show F + (c + 1) = (F + c) + 1 by omega, f_X9_newDeed_l16, if_neg (nI_ge (by omega) (by omega)), Option.bind_some, c_rdv T (by omega), Option.bind_some, rv]
    unfold ab_let
    dsimp only
    rw [nI_1, c_l16 T i2 q hq c (j + 1) _ F (by omega) (fun i i1 i2 => h i (by omega) i2), lts]
theorem c_l16e (T : txt U d m el) (h50 : 50 ≤ U.1) {N : Nat} (hN : ab_i U 5 1 = nI N) {q e kd x pay fg : Nat} {a : Int32} (hq : q < 900) (hx : el (q + 1) = nI (97 + x)) (hqm : q + 1 < m) (w5 : f_X9_number (some (15 + 2 * d)) (nI (q + 2)) U = some (nI pay)) (w6 : f_X9_behindNumber (some (15 + 2 * d)) (nI (q + 2)) 2 U = some (nI e)) (w7 : f_X9_number (some (15 + 2 * d)) (nI (e + 1)) U = some (nI fg)) (w8 : f_X9_number (some (15 + 2 * d)) (nI (p + 1)) U = some (nI kd)) (F : Nat) (hk : kd ≤ 9) : (kd < 8 → ∃ W, f_X9_newDeed_l16 5 (F + 1) (some (15 + 2 * d)) (nI (p + 1)) (nI q) a (nI q) U = some (some U.1, W) ∧ ini U W ∧ dkq W U.1 N (nI kd) a (nI x) (nI pay) (nI fg)) ∧ (¬ kd < 8 → f_X9_newDeed_l16 5 (F + 1) (some (15 + 2 * d)) (nI (p + 1)) (nI q) a (nI q) U = some (none, U)) := by
  have n2 : nI q + 2 = nI (q + 2) := by rw [n_lit 2, nI_add]
  have rv : rdv el m (q + 1) = nI (97 + x) := by rw [← hx]; exact if_pos hqm
  have ex : nI (97 + x) - 97 = nI x := by rw [n_lit 97, nx_sub (by omega)]; congr 1; omega
  have hnw : ab_i (ab_nw U) 5 1 = nI N := by rw [hi_nw, if_neg (by omega)]; exact hN
  have st : (ab_shp U.1).1 = 4 := by rw [shp_d h50]
  rw [f_X9_newDeed_l16, if_pos (nI_le (Nat.le_refl _) (by omega)), Option.bind_some, nI_1, c_rdv T (by omega), Option.bind_some, n2, w5, Option.bind_some, w6, Option.bind_some, nI_1, w7, Option.bind_some, w8, Option.bind_some, rv, ex, if_pos st, if_pos st, if_pos st, if_pos st, if_pos st, if_pos st, if_pos st, if_pos st]
  unfold ab_let
  dsimp only
  rw [hnw]
  have cases : kd = 0 ∨ kd = 1 ∨ kd = 2 ∨ kd = 3 ∨ kd = 4 ∨ kd = 5 ∨ kd = 6 ∨ kd = 7 ∨ kd = 8 ∨ kd = 9 := by omega
  rcases cases with z | z | z | z | z | z | z | z | z | z <;> subst z
  · obtain ⟨W, y1, y2, y3⟩ := ini_0 U N a (nI x) (nI pay) (nI fg)
    rw [if_pos (by decide), y1]
    exact ⟨fun _ => ⟨W, rfl, y2, y3⟩, fun z => absurd (by decide) z⟩
  · obtain ⟨W, y1, y2, y3⟩ := ini_1 U N a (nI x) (nI pay) (nI fg)
    rw [if_neg (by decide), if_pos (by decide), y1]
    exact ⟨fun _ => ⟨W, rfl, y2, y3⟩, fun z => absurd (by decide) z⟩
  · obtain ⟨W, y1, y2, y3⟩ := ini_2 U N a (nI x) (nI pay) (nI fg)
    rw [if_neg (by decide), if_neg (by decide), if_pos (by decide), y1]
    exact ⟨fun _ => ⟨W, rfl, y2, y3⟩, fun z => absurd (by decide) z⟩
  · obtain ⟨W, y1, y2, y3⟩ := ini_3 U N a (nI x) (nI pay) (nI fg)
    rw [if_neg (by decide), if_neg (by decide), if_neg (by decide), if_pos (by decide), y1]
    exact ⟨fun _ => ⟨W, rfl, y2, y3⟩, fun z => absurd (by decide) z⟩
  · obtain ⟨W, y1, y2, y3⟩ := ini_4 U N a (nI x) (nI pay) (nI fg)
    rw [if_neg (by decide), if_neg (by decide), if_neg (by decide), if_neg (by decide), if_pos (by decide), y1]
    exact ⟨fun _ => ⟨W, rfl, y2, y3⟩, fun z => absurd (by decide) z⟩
  · obtain ⟨W, y1, y2, y3⟩ := ini_5 U N a (nI x) (nI pay) (nI fg)
    rw [if_neg (by decide), if_neg (by decide), if_neg (by decide), if_neg (by decide), if_neg (by decide), if_pos (by decide), y1]
    exact ⟨fun _ => ⟨W, rfl, y2, y3⟩, fun z => absurd (by decide) z⟩
  · obtain ⟨W, y1, y2, y3⟩ := ini_6 U N a (nI x) (nI pay) (nI fg)
    rw [if_neg (by decide), if_neg (by decide), if_neg (by decide), if_neg (by decide), if_neg (by decide), if_neg (by decide), if_pos (by decide), y1]
    exact ⟨fun _ => ⟨W, rfl, y2, y3⟩, fun z => absurd (by decide) z⟩
  · obtain ⟨W, y1, y2, y3⟩ := ini_7 U N a (nI x) (nI pay) (nI fg)
    rw [if_neg (by decide), if_neg (by decide), if_neg (by decide), if_neg (by decide), if_neg (by decide), if_neg (by decide), if_neg (by decide), if_pos (by decide), y1]
    exact ⟨fun _ => ⟨W, rfl, y2, y3⟩, fun z => absurd (by decide) z⟩
  · rw [if_neg (by decide), if_neg (by decide), if_neg (by decide), if_neg (by decide), if_neg (by decide), if_neg (by decide), if_neg (by decide), if_neg (by decide)]
    exact ⟨fun z => absurd z (by decide), fun _ => rfl⟩
  · rw [if_neg (by decide), if_neg (by decide), if_neg (by decide), if_neg (by decide), if_neg (by decide), if_neg (by decide), if_neg (by decide), if_neg (by decide)]
    exact ⟨fun z => absurd z (by decide), fun _ => rfl⟩
end
end PRZ
