section LVL
/-- the last pair of a plan -/
theorem m_lv1 {g : ab_HP} {N : Nat} (ht : tw N (ab_i g 32)) {d : Nat} (hd : d < 8) {el : Nat → Int32} (he : ∀ k, k < 10 → ab_i g 38 (100 * d + k) = el k ∧ -999 ≤ (el k).toInt ∧ (el k).toInt ≤ 999) (F : Nat) (t so c : Int32) {V : ab_HP} {st : pST} (M : mpi g V d st) : ∃ X, f_X12_plans_rec (F + 1) 31 1 t so c V = some X ∧ mpi g X d ((mvl N).foldl (fun st m => pstp (wth el (eff (ab_i g 32) m (so, c)).1) (ptl t m) st) st) := by
  rw [f_X12_plans_rec]
  refine m_pla ht (fun m ok hk V st f M => m_tb ht _ 1 t so c ok hk M f (fun W MW e26 e27 => ?_)) M
  obtain ⟨B, hp, h38, hn, hs⟩ := MW
  have heW : ∀ k, k < 10 → ab_i W 38 (100 * d + k) = el k ∧ -999 ≤ (el k).toInt ∧ (el k).toInt ≤ 999 := fun k hk => by rw [B.2.1 38 _ (by omega)]; exact he k hk
  rw [if_pos (show (1 : Int32) ≤ 1 by decide), e26]
  simp only [m_wth hp hd h38 heW, Option.bind_some, nI_1]
  -- it is written down
  have put : ∀ v tt, ∃ X, f_X12_tries_b152 (f_X12_tries_l3 (f_X12_plans_rec F) 31 f) (f_X12_plans_rec F) 31 1 t (nI m.2.1) (nI m.2.2.1) (nI m.2.2.2) so c (nI m.1) tt (Int32.toInt64 v) W = f_X12_tries_l3 (f_X12_plans_rec F) 31 f 1 t (nI m.2.1) (nI m.2.2.1) (nI m.2.2.2) so c (nI (m.1 + 1)) X ∧ mpi g X d (some (v, tt)) := by
    intro v tt
    have o : ∀ r j, ¬ (r = 31 ∧ (j = 35 ∨ j = 37)) → ab_i (ab_ip (ab_lp (ab_ip W 31 35 1) 31 36 v.toInt64) 31 37 tt) r j = ab_i W r j := fun r j q => by rw [hi_ip, if_neg (by omega), hi_lp, hi_ip, if_neg (by omega)]
    refine ⟨ab_ip (ab_lp (ab_ip W 31 35 1) 31 36 v.toInt64) 31 37 tt, ?_, ?_, ?_, ?_, ?_, ?_⟩
    · unfold f_X12_tries_b152 ab_let
      rw [nI_1]
    · exact B.trans (((gm_ip (by omega)).trans gm_lp).trans (gm_ip (by omega)))
    · exact fun k => hp k
    · rw [o 31 38 (by omega)]; exact h38
    · intro e; cases e
    · intro x hx
      cases hx
      refine ⟨?_, ?_, ?_⟩
      · rw [hi_ip, if_neg (by omega), hi_lp, hi_ip, if_pos ⟨rfl, rfl⟩]
      · rw [hl_ip, hl_lp, if_pos ⟨rfl, rfl⟩]
      · rw [hi_ip, if_pos ⟨rfl, rfl⟩]
  rcases hst : st with _ | x
  · have e35 := hn hst
    simp only [e35, if_true]
    exact put _ _
  · obtain ⟨s1, s2, s3⟩ := hs x hst
    simp only [s1, one0, if_false, s2, lg_cmp_gt, n_lt64, Int32.toInt_toInt64]
    by_cases a : x.1 < wth el (eff (ab_i g 32) m (so, c)).1
    · have e : pstp (wth el (eff (ab_i g 32) m (so, c)).1) (ptl t m) (some x) = some (wth el (eff (ab_i g 32) m (so, c)).1, ptl t m) := if_pos a
      rw [n_lt] at a
      simp only [a, if_true]
      rw [e]
      exact put _ _
    · have e : pstp (wth el (eff (ab_i g 32) m (so, c)).1) (ptl t m) (some x) = some x := if_neg a
      rw [n_lt] at a
      simp only [a, if_false]
      rw [e]
      exact ⟨W, rfl, B, hp, h38, by rw [← hst]; exact hn, by rw [← hst]; exact hs⟩
/-- the first of two pairs -/
theorem m_lv2 {g : ab_HP} {N : Nat} (ht : tw N (ab_i g 32)) {d : Nat} (hd : d < 8) {el : Nat → Int32} (he : ∀ k, k < 10 → ab_i g 38 (100 * d + k) = el k ∧ -999 ≤ (el k).toInt ∧ (el k).toInt ≤ 999) (F : Nat) (t so c : Int32) {V : ab_HP} {st : pST} (M : mpi g V d st) : ∃ X, f_X12_plans_rec (F + 2) 31 2 t so c V = some X ∧ mpi g X d ((mvl N).foldl (fun st m1 => (mvl N).foldl (fun st m => pstp (wth el (eff (ab_i g 32) m (eff (ab_i g 32) m1 (so, c))).1) (ptl (ptl t m1) m) st) st) st) := by
  rw [f_X12_plans_rec]
  refine m_pla ht (fun m ok hk V st f M => m_tb ht _ 2 t so c ok hk M f (fun W MW e26 e27 => ?_)) M
  obtain ⟨X, x1, x2⟩ := m_lv1 ht hd he F (ptl t m) (eff (ab_i g 32) m (so, c)).1 (eff (ab_i g 32) m (so, c)).2 MW
  rw [if_neg (show ¬ (2 : Int32) ≤ 1 by decide), e26, e27, show (2 : Int32) - 1 = 1 by decide, x1, nI_1]
  exact ⟨X, rfl, x2⟩
/-! the folds are the class's -/
theorem mvl_cons (N : Nat) : mvl N = (0, 0, 0, 0) :: (mvl N).drop 1 := rfl
theorem eff_0 (s : Nat → Int32) (e : Int32 × Int32) : eff s (0, 0, 0, 0) e = e := rfl
theorem pst2 (v w t : Int32) (st : pST) : pstp w t (pstp v t st) = pstp (if v < w then w else v) t st := by
  rcases st with _ | x
  · show (if v < w then some (w, t) else some (v, t)) = some (if v < w then w else v, t)
    split <;> rfl
  · show pstp w t (if x.1 < v then some (v, t) else some x) = (if x.1 < (if v < w then w else v) then some (if v < w then w else v, t) else some x)
    by_cases a : x.1 < v
    · rw [if_pos a]
      show (if v < w then some (w, t) else some (v, t)) = _
      by_cases b : v < w
      · rw [if_pos b, if_pos b, if_pos (show x.1 < w by rw [n_lt] at *; omega)]
      · rw [if_neg b, if_neg b, if_pos a]
    · rw [if_neg a]
      show (if x.1 < w then some (w, t) else some x) = _
      by_cases b : v < w
      · rw [if_pos b]
      · rw [if_neg b, if_neg a, if_neg (show ¬ x.1 < w by rw [n_lt] at *; omega)]
theorem pfold (s el : Nat → Int32) (e : Int32 × Int32) (t : Int32) (st : pST) : ∀ (L : List mvT) (a : Int32), L.foldl (fun st m => pstp (wth el (eff s m e).1) t st) (pstp a t st) = pstp (L.foldl (mxs s el e) a) t st
  | [], _ => rfl
  | m :: L, a => by
    rw [List.foldl_cons, List.foldl_cons, pst2]
    exact pfold s el e t st L (mxs s el e a m)
theorem pfold2 (s el : Nat → Int32) (N : Nat) (e : Int32 × Int32) (t : Int32) (st : pST) {pn : Int32} (hp : ¬ pn = 1) : (mvl N).foldl (fun st m => pstp (wth el (eff s m e).1) t st) st = pstp (vlu s el N pn e) t st := by
  rw [mvl_cons, List.foldl_cons, eff_0, pfold]
  unfold vlu
  rw [if_neg hp]
def pv (s el : Nat → Int32) (N : Nat) (pn : Int32) (m : mvT) : Int32 := vlu s el N pn (eff s m (s 0, s 1))
theorem pbst (s el : Nat → Int32) (N : Nat) (pn : Int32) : ∀ (L : List mvT) (b : mvT × Int32), L.foldl (fun st m => pstp (pv s el N pn m) (nI (mco m)) st) (some (b.2, nI (mco b.1))) = some ((L.foldl (bst s el N pn) b).2, nI (mco (L.foldl (bst s el N pn) b).1))
  | [], _ => rfl
  | m :: L, b => by
    rw [List.foldl_cons, List.foldl_cons]
    have e : pstp (pv s el N pn m) (nI (mco m)) (some (b.2, nI (mco b.1))) = some ((bst s el N pn b m).2, nI (mco (bst s el N pn b m).1)) := by
      show (if b.2 < pv s el N pn m then some (pv s el N pn m, nI (mco m)) else some (b.2, nI (mco b.1))) = _
      unfold bst
      by_cases a : vlu s el N pn (eff s m (s 0, s 1)) ≤ b.2
      · rw [if_pos a, if_neg (show ¬ b.2 < pv s el N pn m by unfold pv; rw [n_lt]; rw [n_le] at a; omega)]
      · rw [if_neg a, if_pos (show b.2 < pv s el N pn m by unfold pv; rw [n_lt]; rw [n_le] at a; omega)]
        rfl
    rw [e]
    exact pbst s el N pn L _
theorem bst_inv (s el : Nat → Int32) (N : Nat) (pn : Int32) : ∀ (L : List mvT) (b : mvT × Int32), L.all (mok N) = true → mok N b.1 = true → b.2 = pv s el N pn b.1 → mok N (L.foldl (bst s el N pn) b).1 = true ∧ (L.foldl (bst s el N pn) b).2 = pv s el N pn (L.foldl (bst s el N pn) b).1
  | [], _, _, h1, h2 => ⟨h1, h2⟩
  | m :: L, b, ha, h1, h2 => by
    rw [List.all_cons, Bool.and_eq_true] at ha
    rw [List.foldl_cons]
    unfold bst
    by_cases a : vlu s el N pn (eff s m (s 0, s 1)) ≤ b.2
    · rw [if_pos a]
      exact bst_inv s el N pn L b ha.2 h1 h2
    · rw [if_neg a]
      exact bst_inv s el N pn L _ ha.2 ha.1 rfl
/-- the best move, by the Model's fold and by the class's -/
theorem pbest (s el : Nat → Int32) (N : Nat) (pn : Int32) : (mvl N).foldl (fun st m => pstp (pv s el N pn m) (nI (mco m)) st) none = some (((mvl N).foldl (bst s el N pn) ((0, 0, 0, 0), pv s el N pn (0, 0, 0, 0))).2, nI (mco ((mvl N).foldl (bst s el N pn) ((0, 0, 0, 0), pv s el N pn (0, 0, 0, 0))).1)) := by
  rw [mvl_cons, List.foldl_cons, List.foldl_cons]
  have e : bst s el N pn ((0, 0, 0, 0), pv s el N pn (0, 0, 0, 0)) (0, 0, 0, 0) = ((0, 0, 0, 0), pv s el N pn (0, 0, 0, 0)) := by
    unfold bst
    rw [if_pos]
    show pv s el N pn (0, 0, 0, 0) ≤ pv s el N pn (0, 0, 0, 0)
    rw [n_le]
    exact Int.le_refl _
  rw [e]
  exact pbst s el N pn _ ((0, 0, 0, 0), pv s el N pn (0, 0, 0, 0))
end LVL
