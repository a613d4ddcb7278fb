section PRD
section
variable (el : Nat → Int32) (m : Nat)
theorem bSign_r (c : Int32) (r : rT) : r.2 ≤ (bSign el m c r).2 ∧ (bSign el m c r).2 ≤ r.2 + 1 := by
  unfold bSign
  split
  · split
    · exact ⟨Nat.le_succ _, Nat.le_refl _⟩
    · exact ⟨Nat.le_refl _, Nat.le_succ _⟩
  · exact ⟨Nat.le_refl _, Nat.le_succ _⟩
theorem bDig_r (r : rT) : r.2 ≤ (bDig el m r).2 ∧ (bDig el m r).2 ≤ r.2 + 1 := by
  unfold bDig
  split
  · split
    · exact ⟨Nat.le_succ _, Nat.le_refl _⟩
    · exact ⟨Nat.le_refl _, Nat.le_succ _⟩
  · exact ⟨Nat.le_refl _, Nat.le_succ _⟩
theorem bLet_r (r : rT) : r.2 ≤ (bLet el m r).2 ∧ (bLet el m r).2 ≤ r.2 + 1 := by
  unfold bLet
  split
  · split
    · exact ⟨Nat.le_succ _, Nat.le_refl _⟩
    · exact ⟨Nat.le_refl _, Nat.le_succ _⟩
  · exact ⟨Nat.le_refl _, Nat.le_succ _⟩
theorem nds_r : ∀ (n : Nat) (last : Int32) (p : Nat), p ≤ nds el m n last p ∧ nds el m n last p ≤ p + n
  | 0, _, p => ⟨Nat.le_refl _, Nat.le_refl _⟩
  | n + 1, last, p => by
    rw [nds]
    split
    · have := nds_r n (el p) (p + 1)
      omega
    · omega
theorem dgs_r : ∀ (n p : Nat), p ≤ dgs el m n p ∧ dgs el m n p ≤ p + n
  | 0, p => ⟨Nat.le_refl _, Nat.le_refl _⟩
  | n + 1, p => by
    rw [dgs]
    split
    · have := dgs_r n (p + 1)
      omega
    · omega
theorem bNeeds_r (r : rT) : r.2 ≤ (bNeeds el m r).2 ∧ (bNeeds el m r).2 ≤ r.2 + 10 := by
  unfold bNeeds
  split
  · exact nds_r el m 10 0 r.2
  · omega
theorem bNum_r {k : Nat} (hk : 1 ≤ k) (r : rT) : r.2 ≤ (bNum el m k r).2 ∧ (bNum el m k r).2 ≤ r.2 + k := by
  unfold bNum
  split
  · split
    · split
      · show r.2 ≤ r.2 + 1 ∧ r.2 + 1 ≤ r.2 + k
        omega
      · have := dgs_r el m (k - 1) (r.2 + 1)
        show r.2 ≤ dgs el m (k - 1) (r.2 + 1) ∧ dgs el m (k - 1) (r.2 + 1) ≤ r.2 + k
        omega
    · show r.2 ≤ r.2 ∧ r.2 ≤ r.2 + k
      omega
  · omega
theorem bDeed_r (r : rT) : r.2 ≤ (bDeed el m r).2 ∧ (bDeed el m r).2 ≤ r.2 + 17 := by
  unfold bDeed
  have h1 := bDig_r el m r
  have h2 := bNeeds_r el m (bDig el m r)
  have h3 := bSign_r el m 32 (bNeeds el m (bDig el m r))
  have h4 := bLet_r el m (bSign el m 32 (bNeeds el m (bDig el m r)))
  have h5 := bNum_r el m (k := 2) (by decide) (bLet el m (bSign el m 32 (bNeeds el m (bDig el m r))))
  have h6 := bSign_r el m 32 (bNum el m 2 (bLet el m (bSign el m 32 (bNeeds el m (bDig el m r)))))
  have h7 := bDig_r el m (bSign el m 32 (bNum el m 2 (bLet el m (bSign el m 32 (bNeeds el m (bDig el m r))))))
  omega
theorem bNail_r (r : rT) : r.2 ≤ (bNail el m r).2 ∧ (bNail el m r).2 ≤ r.2 + 5 := by
  have h1 := bNum_r el m (k := 2) (by decide) r
  have h2 := bSign_r el m 32 (bNum el m 2 r)
  unfold bNail
  split
  · have h3 := bDig_r el m (true, (bSign el m 32 (bNum el m 2 r)).2 + 1)
    have e : ((true, (bSign el m 32 (bNum el m 2 r)).2 + 1) : rT).2 = (bSign el m 32 (bNum el m 2 r)).2 + 1 := rfl
    omega
  · have h3 := bSign_r el m 43 (bSign el m 32 (bNum el m 2 r))
    have h4 := bDig_r el m (bSign el m 43 (bSign el m 32 (bNum el m 2 r)))
    omega
theorem bSign_t {c : Int32} {r : rT} (h : (bSign el m c r).1 = true) : r.1 = true ∧ r.2 < m ∧ el r.2 = c ∧ (bSign el m c r).2 = r.2 + 1 := by
  unfold bSign at h ⊢
  by_cases a : r.1 = true
  · rw [if_pos a] at h ⊢
    by_cases b : cS el m c r.2 = true
    · rw [if_pos b]
      unfold cS at b
      rw [Bool.and_eq_true, decide_eq_true_eq, decide_eq_true_eq] at b
      exact ⟨a, b.1, b.2, rfl⟩
    · rw [if_neg b] at h
      cases h
  · rw [if_neg a] at h
    exact absurd h a
theorem bStmt_r (p : Nat) : p ≤ (bStmt el m p).2 ∧ (bStmt el m p).2 ≤ p + 19 ∧ ((bStmt el m p).1 = true → p + 2 ≤ (bStmt el m p).2 ∧ (bStmt el m p).2 ≤ m) := by
  have key : ∀ r : rT, p + 1 ≤ r.2 → r.2 ≤ p + 18 → p ≤ (bSign el m 59 r).2 ∧ (bSign el m 59 r).2 ≤ p + 19 ∧ ((bSign el m 59 r).1 = true → p + 2 ≤ (bSign el m 59 r).2 ∧ (bSign el m 59 r).2 ≤ m) := by
    intro r h1 h2
    have h3 := bSign_r el m 59 r
    refine ⟨by omega, by omega, fun h => ?_⟩
    have := bSign_t el m h
    omega
  unfold bStmt
  split
  · have := bNum_r el m (k := 4) (by decide) (true, p + 1)
    have e : ((true, p + 1) : rT).2 = p + 1 := rfl
    exact key _ (by omega) (by omega)
  · split
    · have := bDeed_r el m (true, p + 1)
      have e : ((true, p + 1) : rT).2 = p + 1 := rfl
      exact key _ (by omega) (by omega)
    · split
      · have := bDig_r el m (true, p + 1)
        have e : ((true, p + 1) : rT).2 = p + 1 := rfl
        exact key _ (by omega) (by omega)
      · split
        · have := bLet_r el m (true, p + 1)
          have e : ((true, p + 1) : rT).2 = p + 1 := rfl
          exact key _ (by omega) (by omega)
        · split
          · have := bNail_r el m (true, p + 1)
            have e : ((true, p + 1) : rT).2 = p + 1 := rfl
            exact key _ (by omega) (by omega)
          · exact ⟨Nat.le_refl _, by omega, fun h => by cases h⟩
/-- how many statements, or the place of the fault -/
def ps1 : Nat → Nat → Nat → rT
  | 0, n, _ => (true, n)
  | f + 1, n, p => if (bStmt el m p).1 = true then (if (bStmt el m p).2 < m then ps1 f (n + 1) (bStmt el m p).2 else (true, n + 1)) else (false, (bStmt el m p).2)
end
section
variable {U : ab_HP} {d m : Nat} {el : Nat → Int32}
theorem c_bDeed (T : txt U d m el) {r : rT} (hr : r.2 < 900) : f_X9_behindDeed (some (15 + 2 * d)) (rE r) U = some (rE (bDeed el m r)) := by
  have h1 := bDig_r el m r
  have h2 := bNeeds_r el m (bDig el m r)
  have h3 := bSign_r el m 32 (bNeeds el m (bDig el m r))
  have h4 := bLet_r el m (bSign el m 32 (bNeeds el m (bDig el m r)))
  have h5 := bNum_r el m (k := 2) (by decide) (bLet el m (bSign el m 32 (bNeeds el m (bDig el m r))))
  have h6 := bSign_r el m 32 (bNum el m 2 (bLet el m (bSign el m 32 (bNeeds el m (bDig el m r)))))
  have n2 := c_bNum T (k := 2) (by decide) (by decide) (r := bLet el m (bSign el m 32 (bNeeds el m (bDig el m r)))) (by omega)
  rw [show nI 2 = (2 : Int32) from rfl] at n2
  unfold f_X9_behindDeed bDeed
  rw [c_bDig T (by omega), Option.bind_some, c_bNeeds T (by omega), Option.bind_some, c_bSign T (by decide) (by omega), Option.bind_some, c_bLet T (by omega), Option.bind_some, n2, Option.bind_some, c_bSign T (by decide) (by omega), Option.bind_some, c_bDig T (by omega), Option.bind_some]
theorem c_bNail (T : txt U d m el) {r : rT} (hr : r.2 < 900) : f_X9_behindNail (some (15 + 2 * d)) (rE r) U = some (rE (bNail el m r)) := by
  have h1 := bNum_r el m (k := 2) (by decide) r
  have h2 := bSign_r el m 32 (bNum el m 2 r)
  have h3 := bSign_r el m 43 (bSign el m 32 (bNum el m 2 r))
  have n2 := c_bNum T (k := 2) (by decide) (by decide) (r := r) (by omega)
  rw [show nI 2 = (2 : Int32) from rfl] at n2
  have b35 : f_X9_behindNail_b35 (some (15 + 2 * d)) (rE (bSign el m 32 (bNum el m 2 r))) U = some (rE (bDig el m (bSign el m 43 (bSign el m 32 (bNum el m 2 r))))) := by
    unfold f_X9_behindNail_b35
    rw [c_bSign T (by decide) (by omega), Option.bind_some, c_bDig T (by omega), Option.bind_some]
  unfold f_X9_behindNail bNail
  rw [n2, Option.bind_some, c_bSign T (by decide) (by omega), Option.bind_some]
  by_cases a : (bSign el m 32 (bNum el m 2 r)).1 = true
  · have e : rE (bSign el m 32 (bNum el m 2 r)) = nI (bSign el m 32 (bNum el m 2 r)).2 := if_pos a
    have q : ¬ rE (bSign el m 32 (bNum el m 2 r)) < 0 := by
      rw [rE_lt (by omega)]
      exact fun x => x a
    rw [if_neg q, Option.bind_some]
    by_cases b : cS el m 45 (bSign el m 32 (bNum el m 2 r)).2 = true
    · have q2 : rdv el m (bSign el m 32 (bNum el m 2 r)).2 = 45 := (rdv_eq el m _ (by decide)).mpr b
      have rd := c_rdv T (p := (bSign el m 32 (bNum el m 2 r)).2) (by omega)
      rw [← e] at rd
      have dg := c_bDig T (r := (true, (bSign el m 32 (bNum el m 2 r)).2 + 1)) (show (bSign el m 32 (bNum el m 2 r)).2 + 1 < 1000 by omega)
      rw [rE_t, ← nI_1, ← e] at dg
      rw [if_pos ⟨a, b⟩, rd, Option.bind_some, if_pos q2, dg, Option.bind_some]
    · have q2 : ¬ rdv el m (bSign el m 32 (bNum el m 2 r)).2 = 45 := fun x => b ((rdv_eq el m _ (by decide)).mp x)
      have rd := c_rdv T (p := (bSign el m 32 (bNum el m 2 r)).2) (by omega)
      rw [← e] at rd
      rw [if_neg (fun x => b x.2), rd, Option.bind_some, if_neg q2, b35]
  · have q : rE (bSign el m 32 (bNum el m 2 r)) < 0 := by
      rw [rE_lt (by omega)]
      exact a
    rw [if_pos q, if_neg (fun x => a x.1), b35]
theorem c_bStmt (T : txt U d m el) {p : Nat} (hp : p < 800) : f_X9_behindStatement (some (15 + 2 * d)) (nI p) U = some (rE (bStmt el m p)) := by
  have r1 := bNum_r el m (k := 4) (by decide) (true, p + 1)
  have r2 := bDeed_r el m (true, p + 1)
  have r3 := bDig_r el m (true, p + 1)
  have r4 := bLet_r el m (true, p + 1)
  have r5 := bNail_r el m (true, p + 1)
  have e : ((true, p + 1) : rT).2 = p + 1 := rfl
  have n4 := c_bNum T (k := 4) (by decide) (by decide) (r := (true, p + 1)) (show p + 1 < 1000 by omega)
  have nd := c_bDeed T (r := (true, p + 1)) (show p + 1 < 900 by omega)
  have ng := c_bDig T (r := (true, p + 1)) (show p + 1 < 1000 by omega)
  have nl := c_bLet T (r := (true, p + 1)) (show p + 1 < 1000 by omega)
  have nn := c_bNail T (r := (true, p + 1)) (show p + 1 < 900 by omega)
  rw [rE_t, ← nI_1] at n4 nd ng nl nn
  rw [show nI 4 = (4 : Int32) from rfl] at n4
  unfold f_X9_behindStatement f_X9_behindStatement_b129 f_X9_behindStatement_b124 f_X9_wrongAt bStmt
  rw [Option.bind_some, c_rdv T (by omega), Option.bind_some]
  by_cases a1 : cS el m 99 p = true
  · rw [if_pos a1, if_pos ((rdv_eq el m p (by decide)).mpr a1), n4, Option.bind_some, c_bSign T (by decide) (by omega), Option.bind_some]
  rw [if_neg a1, if_neg (fun x => a1 ((rdv_eq el m p (by decide)).mp x))]
  by_cases a2 : cS el m 100 p = true
  · rw [if_pos a2, if_pos ((rdv_eq el m p (by decide)).mpr a2), nd, Option.bind_some, c_bSign T (by decide) (by omega), Option.bind_some]
  rw [if_neg a2, if_neg (fun x => a2 ((rdv_eq el m p (by decide)).mp x))]
  by_cases a3 : cS el m 108 p = true
  · rw [if_pos a3, if_pos ((rdv_eq el m p (by decide)).mpr a3), ng, Option.bind_some, c_bSign T (by decide) (by omega), Option.bind_some]
  rw [if_neg a3, if_neg (fun x => a3 ((rdv_eq el m p (by decide)).mp x))]
  by_cases a4 : cS el m 109 p = true
  · rw [if_pos a4, if_pos ((rdv_eq el m p (by decide)).mpr a4), nl, Option.bind_some, c_bSign T (by decide) (by omega), Option.bind_some]
  rw [if_neg a4, if_neg (fun x => a4 ((rdv_eq el m p (by decide)).mp x))]
  by_cases a5 : cS el m 110 p = true
  · rw [if_pos a5, if_pos ((rdv_eq el m p (by decide)).mpr a5), nn, Option.bind_some, c_bSign T (by decide) (by omega), Option.bind_some]
  rw [if_neg a5, if_neg (fun x => a5 ((rdv_eq el m p (by decide)).mp x)), Option.bind_some, rE_f]
theorem rE_fault {r : rT} (h : r.2 < 2000) (hr : ¬ r.1 = true) : (-1 : Int32) - rE r = nI r.2 := by
  have e : (-1 : Int32).toInt = -1 := rfl
  have er : (rE r).toInt = -1 - (r.2 : Int) := by rw [rE_int (by omega), if_neg hr]
  rw [n_eq, n_sub (by rw [e, er]; omega) (by rw [e, er]; omega), e, er, nI_toInt (by omega)]
  omega
/-- the class's first going through -/
theorem c_ps1 (T : txt U d m el) : ∀ (f n p : Nat), n ≤ p → (p < m ∨ (n = 0 ∧ p = 0)) → p ≤ 100 → m + 1 ≤ p + f → ∀ F, f < F → f_X9_read_l4 5 F (some (15 + 2 * d)) (nI n) (nI p) U = if (ps1 el m f n p).1 = true then f_X9_read_b49 5 (some (15 + 2 * d)) (nI (ps1 el m f n p).2) U else some (-1000 - nI (ps1 el m f n p).2, U)
  | 0, n, p, h1, h2, h3, h4, F, _ => by
    exfalso
    omega
  | f + 1, n, p, h1, h2, h3, h4, F + 1, hF => by
    have hm := T.2.2.1
    have es := T.2.2.2.1
    have br := bStmt_r el m p
    have b24 : f_X9_read_b24 (f_X9_read_l4 5 F) 5 (some (15 + 2 * d)) (nI n) (nI p) U = if (ps1 el m (f + 1) n p).1 = true then f_X9_read_b49 5 (some (15 + 2 * d)) (nI (ps1 el m (f + 1) n p).2) U else some (-1000 - nI (ps1 el m (f + 1) n p).2, U) := by
      unfold f_X9_read_b24 f_X9_faultAt
      rw [c_bStmt T (by omega), Option.bind_some, ps1]
      by_cases a : (bStmt el m p).1 = true
      · have e : rE (bStmt el m p) = nI (bStmt el m p).2 := if_pos a
        have b3 := br.2.2 a
        rw [if_pos (show 0 ≤ rE (bStmt el m p) by rw [rE_ge (by omega)]; exact a), if_pos a, e, nI_1]
        by_cases b : (bStmt el m p).2 < m
        · rw [if_pos b]
          exact c_ps1 T f (n + 1) (bStmt el m p).2 (by omega) (Or.inl b) (by omega) (by omega) F (by omega)
        · rw [if_neg b, if_pos (show ((true, n + 1) : rT).1 = true from rfl)]
          obtain ⟨F', rfl⟩ : ∃ F', F = F' + 1 := ⟨F - 1, by omega⟩
          rw [f_X9_read_l4, if_neg (nI_ne0 (by omega) (by omega)), Option.bind_some, es]
          by_cases c : m ≤ n + 1
          · rw [if_pos (nI_le c (by omega))]
          · rw [if_neg (nI_ge (by omega) (by omega)), if_pos (nI_le (by omega) (by omega))]
      · rw [if_neg (show ¬ 0 ≤ rE (bStmt el m p) by rw [rE_ge (by omega)]; exact a), if_neg a, rE_fault (by omega) a, Option.bind_some, if_neg (show ¬ ((false, (bStmt el m p).2) : rT).1 = true from Bool.false_ne_true)]
    rw [f_X9_read_l4]
    by_cases n0 : n = 0
    · rw [if_pos (by rw [n0]; rfl), b24]
    · have pm : p < m := by omega
      rw [if_neg (nI_ne0 (by omega) (by omega)), Option.bind_some, es, if_neg (nI_ge (by omega) (by omega)), if_neg (nI_ge (by omega) (by omega)), b24]
  | _, _, _, _, _, _, _, 0, h => absurd h (Nat.not_lt_zero _)
end
end PRD
