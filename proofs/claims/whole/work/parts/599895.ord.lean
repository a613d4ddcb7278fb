section ORD
/-! orders of five places: as lists -/
def og (p : List Nat) (k : Nat) : Nat := p.getD k 0
def osw (p : List Nat) (i j : Nat) : List Nat := (p.set i (og p j)).set j (og p i)
def ots (p : List Nat) : Nat → Nat
  | 0 => 0
  | k + 1 => if og p k ≤ og p (k + 1) then k + 1 else ots p k
def ogs (p : List Nat) (t : Nat) : Nat → Nat
  | 0 => 0
  | k + 1 => if k + 1 ≤ t + 1 then k + 1 else if og p t ≤ og p (k + 1) then k + 1 else ogs p t k
def orv : Nat → List Nat → Nat → Nat → List Nat
  | 0, p, _, _ => p
  | f + 1, p, i, j => if j ≤ i then p else orv f (osw p i j) (i + 1) (j - 1)
def onx (n : Nat) (p : List Nat) : Option (List Nat) := match ots p (n - 1) with
  | 0 => none
  | t + 1 => some (orv 6 (osw p t (ogs p t (n - 1))) (t + 1) (n - 1))
def vis (n : Nat) : Nat → List Nat → List (List Nat)
  | 0, _ => []
  | f + 1, p => p.take n :: (match onx n p with
    | none => []
    | some q => vis n f q)
def ogd5 (n : Nat) (p : List Nat) : Bool := p.length == 5 && p.all (fun x => decide (x < 5)) && (p.take n).all (fun x => decide (x < n))
def ogd (n : Nat) : Nat → List Nat → Bool
  | 0, p => ogd5 n p
  | f + 1, p => ogd5 n p && (match onx n p with
    | none => true
    | some q => ogd n f q)
def pmr (F : List Nat → List (List Nat)) (pre : List Nat) : Nat → Nat → List (List Nat)
  | 0, _ => []
  | m + 1, k => (if pre.contains k then [] else F (pre ++ [k])) ++ pmr F pre m (k + 1)
def pm (n : Nat) : Nat → List Nat → List (List Nat)
  | 0, pre => [pre]
  | c + 1, pre => pmr (pm n c) pre n 0
theorem vis_pm : ∀ n, n < 6 → vis n 120 [0, 1, 2, 3, 4] = pm n n [] ∧ ogd n 120 [0, 1, 2, 3, 4] = true := by decide +kernel
/-- the order in the class's heap -/
def oh (h : ab_HP) (p : List Nat) : Prop := ab_r h 0 5 = some 12 ∧ p.length = 5 ∧ (∀ k, k < 5 → og p k < 5) ∧ ∀ k, k < 5 → ab_i h 12 k = nI (og p k)
theorem og_set {p : List Nat} {i x k : Nat} (hi : i < p.length) : og (p.set i x) k = if k = i then x else og p k := by
  unfold og
  rw [List.getD_eq_getElem?_getD, List.getD_eq_getElem?_getD]
  by_cases e : k = i
  · subst e
    rw [List.getElem?_set_self hi, if_pos rfl]
    rfl
  · rw [List.getElem?_set_ne (fun q => e q.symm), if_neg e]
theorem og_sw {p : List Nat} {i j k : Nat} (hp : p.length = 5) (hi : i < 5) (hj : j < 5) : og (osw p i j) k = if k = j then og p i else if k = i then og p j else og p k := by
  unfold osw
  rw [og_set (by rw [List.length_set]; omega), og_set (by omega)]
theorem len_sw (p : List Nat) (i j : Nat) : (osw p i j).length = p.length := by
  unfold osw
  rw [List.length_set, List.length_set]
theorem c_oat {h : ab_HP} {p : List Nat} (H : oh h p) {k : Nat} (hk : k < 5) : f_X11_at (some 12) (nI k) h = some (nI (og p k)) := by
  have q : ab_in (nI k) 5 = true := in_nI hk (by decide)
  have qc : (nI k).toNatClampNeg = k := nI_clamp (by omega)
  have h2 : ¬ Int32.ofNat 5 ≤ nI k := nI_ge (b := 5) hk (by decide)
  unfold f_X11_at
  simp only [nI_lt0 (show k < 2 ^ 31 by omega), if_false, shp_2, shp_4, shp_6, shp_8, shp_9, shp_10, shp_11, shp_12, shp_13, shp_14, shp_32, shp_33, shp_34, shp_35, shp_36, shp_37, shp_38, shp_39, shp_40, shp_41, shp_42, shp_43, shp_44, shp_45, shp_46, shp_47, shp_48, shp_49, Option.bind_some, ab_let, Option.elim_some, Option.elim_none, h2, q, if_true, qc, H.2.2.2 k hk]
theorem c_ost {h : ab_HP} {k : Nat} (hk : k < 5) (v : Int32) : f_X11_store (some 12) (nI k) v h = some (ab_ip h 12 k v) := by
  have q : ab_in (nI k) 5 = true := in_nI hk (by decide)
  have qc : (nI k).toNatClampNeg = k := nI_clamp (by omega)
  have h2 : ¬ Int32.ofNat 5 ≤ nI k := nI_ge (b := 5) hk (by decide)
  unfold f_X11_store
  simp only [nI_lt0 (show k < 2 ^ 31 by omega), if_false, shp_2, shp_4, shp_6, shp_8, shp_9, shp_10, shp_11, shp_12, shp_13, shp_14, shp_32, shp_33, shp_34, shp_35, shp_36, shp_37, shp_38, shp_39, shp_40, shp_41, shp_42, shp_43, shp_44, shp_45, shp_46, shp_47, shp_48, shp_49, Option.bind_some, ab_let, Option.elim_some, Option.elim_none, h2, q, if_true, qc]
/-- only the order's row may have changed -/
def o12 (h w : ab_HP) : Prop := w.1 = h.1 ∧ (∀ r k, r ≠ 12 → ab_i w r k = ab_i h r k) ∧ (∀ r k, ab_r w r k = ab_r h r k) ∧ ∀ r k, ab_l w r k = ab_l h r k
theorem o12_refl (h : ab_HP) : o12 h h := ⟨rfl, fun _ _ _ => rfl, fun _ _ => rfl, fun _ _ => rfl⟩
theorem o12.trans {a b c : ab_HP} (H : o12 a b) (G : o12 b c) : o12 a c := ⟨G.1.trans H.1, fun r k q => (G.2.1 r k q).trans (H.2.1 r k q), fun r k => (G.2.2.1 r k).trans (H.2.2.1 r k), fun r k => (G.2.2.2 r k).trans (H.2.2.2 r k)⟩
theorem o12_ip {h : ab_HP} {k : Nat} {v : Int32} : o12 h (ab_ip h 12 k v) := ⟨rfl, fun r j q => by rw [hi_ip, if_neg (by omega)], fun _ _ => rfl, fun _ _ => rfl⟩
theorem o12.hm {h w : ab_HP} (H : o12 h w) : hm h w := ⟨H.1, fun r k q => H.2.1 r k (by omega), fun r k _ _ _ => H.2.2.1 r k, H.2.2.2⟩
theorem c_osw {h : ab_HP} {p : List Nat} (H : oh h p) {i j : Nat} (hi : i < 5) (hj : j < 5) : ∃ W, f_X11_swapPlaces 0 (nI i) (nI j) h = some W ∧ oh W (osw p i j) ∧ o12 h W := by
  unfold f_X11_swapPlaces
  simp only [H.1, c_oat H hi, c_oat H hj, Option.bind_some, ab_let, Option.elim_some, Option.elim_none, c_ost hi, c_ost hj, hr_ip]
  refine ⟨_, rfl, ⟨H.1, by rw [len_sw]; exact H.2.1, ?_, ?_⟩, o12_ip.trans o12_ip⟩
  · intro k hk
    rw [og_sw H.2.1 hi hj]
    split
    · exact H.2.2.1 i hi
    · split
      · exact H.2.2.1 j hj
      · exact H.2.2.1 k hk
  · intro k hk
    rw [og_sw H.2.1 hi hj, hi_ip]
    by_cases a : k = j
    · rw [if_pos ⟨rfl, a⟩, if_pos a]
    · rw [if_neg (fun x => a x.2), if_neg a, hi_ip]
      by_cases b : k = i
      · rw [if_pos ⟨rfl, b⟩, if_pos b]
      · rw [if_neg (fun x => b x.2), if_neg b]
        exact H.2.2.2 k hk
theorem c_orv : ∀ (f : Nat) (h : ab_HP) (p : List Nat) (i j : Nat), oh h p → j < 5 → i ≤ 5 → j ≤ i + f → ∀ F, f < F → ∃ W, f_X11_nextOrder_l93 0 F (nI i) (nI j) h = some (1, W) ∧ oh W (orv f p i j) ∧ o12 h W
  | 0, h, p, i, j, H, hj, hi, hf, F + 1, _ => by
    rw [f_X11_nextOrder_l93, if_pos (nI_le (by omega) (by omega))]
    exact ⟨h, rfl, H, o12_refl h⟩
  | f + 1, h, p, i, j, H, hj, hi, hf, F + 1, hF => by
    rw [orv, f_X11_nextOrder_l93]
    by_cases a : j ≤ i
    · rw [if_pos (nI_le a (by omega)), if_pos a]
      exact ⟨h, rfl, H, o12_refl h⟩
    · rw [if_neg (nI_ge (by omega) (by omega)), if_neg a]
      obtain ⟨W, w1, w2, w3⟩ := c_osw H (show i < 5 by omega) hj
      obtain ⟨X, x1, x2, x3⟩ := c_orv f W (osw p i j) (i + 1) (j - 1) w2 (by omega) (by omega) (by omega) F (by omega)
      simp only [w1, Option.bind_some, nI_1, nI_addm1 (show 0 < j by omega)]
      exact ⟨X, x1, x2, w3.trans x3⟩
  | _, _, _, _, _, _, _, _, _, 0, h => absurd h (Nat.not_lt_zero _)
theorem c_ots {h : ab_HP} {p : List Nat} (H : oh h p) (n : Nat) : ∀ (k : Nat), k ≤ 4 → ∀ F, k < F → f_X11_nextOrder_l4 0 F (nI n) (nI k - 1) h = f_X11_nextOrder_b35 0 (nI n) (nI (ots p k) - 1) h
  | 0, _, F + 1, _ => by
    rw [f_X11_nextOrder_l4]
    simp only [i_neg, if_true]
    rfl
  | k + 1, hk, F + 1, hF => by
    have o1 := H.2.2.1 k (by omega)
    have o2 := H.2.2.1 (k + 1) (by omega)
    have ih := c_ots H n k (by omega) F (by omega)
    rw [f_X11_nextOrder_l4, ots]
    simp only [nI_pred, nI_lt0 (show k < 2 ^ 31 by omega), if_false, H.1, c_oat H (show k < 5 by omega), nI_1, c_oat H (show k + 1 < 5 by omega), Option.bind_some, nI_leI (show og p k < 2 ^ 31 by omega) (show og p (k + 1) < 2 ^ 31 by omega), i_m1, ih]
    by_cases a : og p k ≤ og p (k + 1)
    · simp only [a, if_true, nI_pred]
    · simp only [a, if_false]
  | _, _, 0, h => absurd h (Nat.not_lt_zero _)
theorem ogs_le (p : List Nat) (t : Nat) : ∀ k, ogs p t k ≤ k
  | 0 => Nat.le_refl _
  | k + 1 => by
    have := ogs_le p t k
    rw [ogs]
    split
    · omega
    · split <;> omega
theorem ots_le (p : List Nat) : ∀ k, ots p k ≤ k
  | 0 => Nat.le_refl _
  | k + 1 => by
    have := ots_le p k
    rw [ots]
    split <;> omega
theorem c_ogs {h : ab_HP} {p : List Nat} (H : oh h p) (n : Nat) {t : Nat} (ht : t < 5) : ∀ (k : Nat), k < 5 → ∀ F, k < F → f_X11_nextOrder_l45 0 F (nI n) (nI t) (nI k) h = f_X11_nextOrder_b77 0 (nI n) (nI t) (nI (ogs p t k)) h
  | 0, _, F + 1, _ => by
    rw [f_X11_nextOrder_l45]
    simp only [nI_1, nI_leI (show 0 < 2 ^ 31 by omega) (show t + 1 < 2 ^ 31 by omega), Nat.zero_le, if_true]
    rfl
  | k + 1, hk, F + 1, hF => by
    have o1 := H.2.2.1 t ht
    have o2 := H.2.2.1 (k + 1) (by omega)
    have ih := c_ogs H n ht k (by omega) F (by omega)
    rw [f_X11_nextOrder_l45, ogs]
    simp only [nI_1, nI_leI (show k + 1 < 2 ^ 31 by omega) (show t + 1 < 2 ^ 31 by omega), H.1, c_oat H (show k + 1 < 5 by omega), c_oat H ht, Option.bind_some, nI_leI (show og p t < 2 ^ 31 by omega) (show og p (k + 1) < 2 ^ 31 by omega), nI_addm1 (show 0 < k + 1 by omega), Nat.add_sub_cancel, ih]
    by_cases a : k + 1 ≤ t + 1
    · simp only [a, if_true]
    · simp only [a, if_false]
      by_cases b : og p t ≤ og p (k + 1)
      · simp only [b, if_true]
      · simp only [b, if_false]
  | _, _, 0, h => absurd h (Nat.not_lt_zero _)
theorem nI_m2 {n : Nat} (h : 0 < n) (h5 : n ≤ 5) : nI n - 2 = nI (n - 1) - 1 := by
  rcases (by omega : n = 1 ∨ n = 2 ∨ n = 3 ∨ n = 4 ∨ n = 5) with rfl | rfl | rfl | rfl | rfl <;> decide
/-- the next order -/
theorem c_onx {h : ab_HP} {p : List Nat} (H : oh h p) {n : Nat} (hn : n ≤ 5) : ∃ W, f_X11_nextOrder 0 (nI n) h = some (bI (onx n p).isSome, W) ∧ (∀ q, onx n p = some q → oh W q) ∧ o12 h W := by
  unfold f_X11_nextOrder onx
  by_cases n0 : n = 0
  · subst n0
    refine ⟨h, ?_, fun q hq => ?_, o12_refl h⟩
    · rw [show (1000 : Nat) = 999 + 1 from rfl, f_X11_nextOrder_l4, if_pos (show nI 0 - 2 < 0 by decide)]
      unfold f_X11_nextOrder_b35
      rw [if_neg (show ¬ (0 : Int32) ≤ nI 0 - 2 by decide)]
      rfl
    · cases hq
  · have e := c_ots H n (n - 1) (by omega) 1000 (by omega)
    rw [nI_m2 (by omega) hn, e]
    have tl := ots_le p (n - 1)
    rcases ho : ots p (n - 1) with _ | t
    · refine ⟨h, ?_, fun q hq => ?_, o12_refl h⟩
      · unfold f_X11_nextOrder_b35
        rw [if_neg (show ¬ (0 : Int32) ≤ nI 0 - 1 by decide)]
        rfl
      · cases hq
    · rw [ho] at tl
      have gl := ogs_le p t (n - 1)
      have e2 := c_ogs H n (show t < 5 by omega) (n - 1) (by omega) 1000 (by omega)
      obtain ⟨W, w1, w2, w3⟩ := c_osw H (show t < 5 by omega) (show ogs p t (n - 1) < 5 by omega)
      obtain ⟨X, x1, x2, x3⟩ := c_orv 6 W (osw p t (ogs p t (n - 1))) (t + 1) (n - 1) w2 (by omega) (by omega) (by omega) 1000 (by omega)
      refine ⟨X, ?_, fun q hq => ?_, w3.trans x3⟩
      · unfold f_X11_nextOrder_b35
        rw [nI_pred, if_pos (nI_pos' (by omega)), nI_sub1 (show 0 < n by omega), e2]
        unfold f_X11_nextOrder_b77
        rw [w1, Option.bind_some, nI_1, nI_sub1 (show 0 < n by omega), x1]
        rfl
      · cases hq
        exact x2
end ORD
