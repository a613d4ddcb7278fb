section PLP
def wck (el : Nat → Int32) : Nat → Nat → Bool
  | 0, _ => true
  | c + 1, k => decide (-999 ≤ el k ∧ el k ≤ 999) && wck el c (k + 1)
theorem wck_t {el : Nat → Int32} : ∀ (c k : Nat), wck el c k = true → ∀ j, k ≤ j → j < k + c → -999 ≤ (el j).toInt ∧ (el j).toInt ≤ 999
  | 0, _, _, j, h1, h2 => by omega
  | c + 1, k, h, j, h1, h2 => by
    rw [wck, Bool.and_eq_true, decide_eq_true_eq] at h
    by_cases e : j = k
    · subst e
      have a := h.1
      rw [n_le, n_le] at a
      exact a
    · exact wck_t c (k + 1) h.2 j (by omega) (by omega)
theorem c_wck {U : ab_HP} (hc : cp U) {d : Nat} (hd : d < 8) (es : ab_i U (15 + 2 * d) 3 = nI 10) {el : Nat → Int32} (he : ∀ k, k < 10 → ab_i U (16 + 2 * d) k = el k) : ∀ (c k : Nat), k + c = 10 → ∀ f, c < f → f_X11_areWorths_l13 f (some (15 + 2 * d)) (nI k) U = some (bI (wck el c k))
  | 0, k, e, f + 1, _ => by
    have e : k = 10 := by omega
    subst e
    rw [f_X11_areWorths_l13, if_pos (show (10 : Int32) ≤ nI 10 by decide)]
    rfl
  | c + 1, k, e, f + 1, hf => by
    have q : ¬ (10 : Int32) ≤ nI k := nI_ge (b := 10) (by omega) (by decide)
    have ih := c_wck hc hd es he c (k + 1) (by omega) f (by omega)
    rw [f_X11_areWorths_l13, if_neg q, wck]
    simp only [Option.bind_some, ab_let, Option.elim_some, Option.elim_none, c_rd hc hd (show 10 ≤ 100 by decide) es (show k < 10 by omega), he k (by omega), nI_1, ih]
    by_cases a : el k < -999
    · have : ¬ (-999 ≤ el k ∧ el k ≤ 999) := fun x => by have := x.1; rw [n_le] at this; rw [n_lt] at a; omega
      simp only [a, if_true, decide_eq_false this, Bool.false_and, bI_f]
    · by_cases b : el k ≤ 999
      · have : (-999 ≤ el k ∧ el k ≤ 999) := ⟨by rw [n_le]; rw [n_lt] at a; omega, b⟩
        rw [decide_eq_true this, Bool.true_and]
        simp only [a, b, if_true, if_false]
      · have : ¬ (-999 ≤ el k ∧ el k ≤ 999) := fun x => b x.2
        rw [decide_eq_false this, Bool.false_and, bI_f]
        simp only [a, b, if_false]
  | _, _, _, 0, h => absurd h (Nat.not_lt_zero _)
theorem m_wck (g : ab_HP) (hp : mp g) {d : Nat} (hd : d < 8) (i1 i3 : Int32) : ∀ (c k : Nat), k + c = 10 → ∀ f, c < f → f_X12_plan_l71 31 f i1 (nI d) i3 (nI k) g = if wck (g_el g d) c k = true then f_X12_plan_l71 31 (f - c) i1 (nI d) i3 (nI 10) g else some (-1000000013, g)
  | 0, k, e, f + 1, _ => by
    have e : k = 10 := by omega
    subst e
    rw [wck, if_pos rfl]
    rfl
  | c + 1, k, e, f + 1, hf => by
    have q : ¬ (10 : Int32) ≤ nI k := nI_ge (b := 10) (by omega) (by decide)
    have a1 : (100 : Int32) * nI d + nI k = nI (100 * d + k) := by rw [n_lit 100, nI_mul, nI_add]
    have b1 : ab_in (nI (100 * d + k)) 800 = true := in_nI (by omega) (by decide)
    have c1 : (nI (100 * d + k)).toNatClampNeg = 100 * d + k := nI_clamp (by omega)
    have ih := m_wck g hp hd i1 i3 c (k + 1) (by omega) f (by omega)
    rw [show f + 1 - (c + 1) = f - c by omega]
    generalize f_X12_plan_l71 31 (f - c) i1 (nI d) i3 (nI 10) g = R at ih ⊢
    rw [f_X12_plan_l71, if_neg q, wck]
    simp only [Option.bind_some, ab_let, Option.elim_some, Option.elim_none, hp 6, mp_0, mp_1, mp_2, mp_3, mp_4, mp_5, mp_6, mp_7, mp_8, mp_16, mp_19, mp_20, mp_21, mp_22, mp_23, mp_32, mp_39, shp_2, shp_4, shp_6, shp_8, shp_9, shp_10, shp_11, shp_12, shp_13, shp_14, shp_32, shp_33, shp_34, shp_35, shp_36, shp_37, shp_38, shp_39, shp_40, shp_41, shp_42, shp_43, shp_44, shp_45, shp_46, shp_47, shp_48, shp_49, a1, b1, c1, if_true, is_m999_999, bI_if, bI_0, nI_1, ih, show ab_i g 38 (100 * d + k) = g_el g d k from rfl]
    by_cases a : -999 ≤ g_el g d k ∧ g_el g d k ≤ 999
    · simp only [decide_eq_true a, Bool.true_eq_false, if_false, Bool.true_and]
    · simp only [decide_eq_false a, if_true, Bool.false_and, Bool.false_eq_true, if_false]
  | _, _, _, 0, h => absurd h (Nat.not_lt_zero _)
/-- the plan, where nothing is refused -/
theorem m_plan0 {g : ab_HP} {N : Nat} (ht : tw N (ab_i g 32)) (hp : mp g) {d : Nat} (hd : d < 8) (hw : ∀ k, k < 10 → -999 ≤ (g_el g d k).toInt ∧ (g_el g d k).toInt ≤ 999) {pn : Int32} (h12 : pn = 1 ∨ pn = 2) (wh : Int32) (f : Nat) : ∃ X, f_X12_plan_l71 31 (f + 1) pn (nI d) wh (nI 10) g = some (if wh = 0 then ((mvl N).foldl (bst (ab_i g 32) (g_el g d) N pn) ((0, 0, 0, 0), pv (ab_i g 32) (g_el g d) N pn (0, 0, 0, 0))).2 else nI (mco ((mvl N).foldl (bst (ab_i g 32) (g_el g d) N pn) ((0, 0, 0, 0), pv (ab_i g 32) (g_el g d) N pn (0, 0, 0, 0))).1), X) ∧ gm g X := by
  obtain ⟨V, hV⟩ : ∃ V, V = ab_ip (ab_ip g 31 38 (nI d)) 31 35 0 := ⟨_, rfl⟩
  have o : ∀ r j, ¬ (r = 31 ∧ (j = 35 ∨ j = 38)) → ab_i V r j = ab_i g r j := fun r j q => by rw [hV, hi_ip, if_neg (by omega), hi_ip, if_neg (by omega)]
  have M : mpi g V d none := ⟨by rw [hV]; exact (gm_ip (by omega)).trans (gm_ip (by omega)), by rw [hV]; exact fun k => hp k, by rw [hV, hi_ip, if_neg (by omega), hi_ip, if_pos ⟨rfl, rfl⟩], fun _ => by rw [hV, hi_ip, if_pos ⟨rfl, rfl⟩], fun x hx => by cases hx⟩
  have he : ∀ k, k < 10 → ab_i g 38 (100 * d + k) = g_el g d k ∧ -999 ≤ (g_el g d k).toInt ∧ (g_el g d k).toInt ≤ 999 := fun k hk => ⟨rfl, hw k hk⟩
  have key : ∃ X, f_X12_plans_rec 3 31 pn (-4) (ab_i g 32 0) (ab_i g 32 1) V = some X ∧ mpi g X d ((mvl N).foldl (fun st m => pstp (pv (ab_i g 32) (g_el g d) N pn m) (nI (mco m)) st) none) := by
    have tn : ∀ m : mvT, ptl (-4) m = nI (mco m) := fun m => if_pos (by decide)
    rcases h12 with e | e
    · subst e
      obtain ⟨X, x1, x2⟩ := m_lv1 ht hd he 2 (-4) (ab_i g 32 0) (ab_i g 32 1) M
      refine ⟨X, x1, ?_⟩
      have : (fun (st : pST) (m : mvT) => pstp (wth (g_el g d) (eff (ab_i g 32) m (ab_i g 32 0, ab_i g 32 1)).1) (ptl (-4) m) st) = (fun st m => pstp (pv (ab_i g 32) (g_el g d) N 1 m) (nI (mco m)) st) := by
        funext st m
        rw [tn]
        unfold pv vlu
        rw [if_pos rfl]
      rw [this] at x2
      exact x2
    · subst e
      obtain ⟨X, x1, x2⟩ := m_lv2 ht hd he 1 (-4) (ab_i g 32 0) (ab_i g 32 1) M
      refine ⟨X, x1, ?_⟩
      have t2 : ∀ m1 m : mvT, mco m1 < 1000 → ptl (nI (mco m1)) m = nI (mco m1) := fun m1 m h => if_neg (nI_pos (by omega))
      have cg : ∀ (L : List mvT) (st : pST), L.all (mok N) = true → L.foldl (fun st m1 => (mvl N).foldl (fun st m => pstp (wth (g_el g d) (eff (ab_i g 32) m (eff (ab_i g 32) m1 (ab_i g 32 0, ab_i g 32 1))).1) (ptl (ptl (-4) m1) m) st) st) st = L.foldl (fun st m => pstp (pv (ab_i g 32) (g_el g d) N 2 m) (nI (mco m)) st) st := by
        intro L
        induction L with
        | nil => intro st _; rfl
        | cons m1 L ih =>
          intro st ha
          rw [List.all_cons, Bool.and_eq_true] at ha
          rw [List.foldl_cons, List.foldl_cons]
          have hN := ht.1
          have lt : mco m1 < 1000 := by
            obtain ⟨k1, k2, k3, k4, k5⟩ := mok_e ha.1
            unfold mco
            split <;> split <;> omega
          have inner : (fun (st : pST) (m : mvT) => pstp (wth (g_el g d) (eff (ab_i g 32) m (eff (ab_i g 32) m1 (ab_i g 32 0, ab_i g 32 1))).1) (ptl (ptl (-4) m1) m) st) = (fun st m => pstp (wth (g_el g d) (eff (ab_i g 32) m (eff (ab_i g 32) m1 (ab_i g 32 0, ab_i g 32 1))).1) (nI (mco m1)) st) := by
            funext st m
            rw [tn, t2 m1 m lt]
          rw [inner, pfold2 (ab_i g 32) (g_el g d) N _ _ st (pn := 2) (by decide)]
          exact ih _ ha.2
      rw [cg _ _ (mvl_ok N (by have := ht.1; omega))] at x2
      exact x2
  obtain ⟨X, x1, B, hpX, h38, hn, hs⟩ := key
  rw [pbest] at hs hn
  obtain ⟨s1, s2, s3⟩ := hs _ rfl
  have e0 : ab_i V 32 0 = ab_i g 32 0 := o 32 0 (by omega)
  have e1 : ab_i V 32 1 = ab_i g 32 1 := o 32 1 (by omega)
  refine ⟨X, ?_, B⟩
  have tt : ∀ x : Int32, x.toInt64.toInt32 = x := fun x => by simp
  have hpV := M.2.1
  rw [f_X12_plan_l71, if_pos (show (10 : Int32) ≤ nI 10 by decide)]
  generalize f_X12_plans_rec 3 = PR at x1 ⊢
  simp only [ab_let, ← hV, hpV 0, mp_0, mp_1, mp_2, mp_3, mp_4, mp_5, mp_6, mp_7, mp_8, mp_16, mp_19, mp_20, mp_21, mp_22, mp_23, mp_32, mp_39, shp_2, shp_4, shp_6, shp_8, shp_9, shp_10, shp_11, shp_12, shp_13, shp_14, shp_32, shp_33, shp_34, shp_35, shp_36, shp_37, shp_38, shp_39, shp_40, shp_41, shp_42, shp_43, shp_44, shp_45, shp_46, shp_47, shp_48, shp_49, in_l0, in_l1, in_l2, in_l3, in_l4, in_l5, in_l6, lit_c0, lit_c1, lit_c2, lit_c3, lit_c4, lit_c5, lit_c6, Nat.reduceLT, decide_true, if_true, Option.bind_some, e0, e1, x1, s2, s3, tt]
  split <;> rfl
end PLP
