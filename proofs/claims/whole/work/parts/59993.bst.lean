section BST
def endv (e : Int32 × Int32) : Int32 := (10000 : Int32) * e.1 + e.2
def bst (s el : Nat → Int32) (N : Nat) (pn : Int32) (st : mvT × Int32) (m : mvT) : mvT × Int32 := if vlu s el N pn (eff s m (s 0, s 1)) ≤ st.2 then st else (m, vlu s el N pn (eff s m (s 0, s 1)))
def eok (e : Int32 × Int32) : Prop := (∃ a, a < 1024 ∧ e.1 = nI a) ∧ ∃ c, c ≤ 9999 ∧ e.2 = nI c
theorem endv_eq {e e' : Int32 × Int32} (h : eok e) (h' : eok e') : endv e = endv e' ↔ e = e' := by
  obtain ⟨x, y⟩ := e
  obtain ⟨x', y'⟩ := e'
  obtain ⟨⟨a, ha, ea⟩, c, hc, ec⟩ := h
  obtain ⟨⟨a', ha', ea'⟩, c', hc', ec'⟩ := h'
  simp only at ea ec ea' ec'
  subst ea ec ea' ec'
  unfold endv
  simp only [n_lit 10000, nI_mul, nI_add]
  rw [nI_eq (by omega) (by omega)]
  constructor
  · intro h
    have h1 : a = a' := by omega
    have h2 : c = c' := by omega
    rw [h1, h2]
  · intro h
    obtain ⟨h1, h2⟩ := Prod.mk.inj h
    have h1 := (nI_eq (by omega) (by omega)).mp h1
    have h2 := (nI_eq (by omega) (by omega)).mp h2
    rw [h1, h2]
def enh (U : ab_HP) (E : Nat → Int32) (k : Nat) : Prop := ∀ j, j < k → ab_i U 14 j = E j
def anyb (E : Nat → Int32) (v : Int32) : Nat → Nat → Bool
  | 0, _ => false
  | c + 1, j => decide (E j = v) || anyb E v c (j + 1)
theorem anyb_t {E : Nat → Int32} {v : Int32} : ∀ (c j : Nat), anyb E v c j = true → ∃ i, j ≤ i ∧ i < j + c ∧ E i = v
  | 0, _, h => by cases h
  | c + 1, j, h => by
    rw [anyb, Bool.or_eq_true, decide_eq_true_eq] at h
    rcases h with h | h
    · exact ⟨j, Nat.le_refl _, by omega, h⟩
    · obtain ⟨i, h1, h2, h3⟩ := anyb_t c (j + 1) h
      exact ⟨i, by omega, by omega, h3⟩
theorem c_eat {U : ab_HP} {k : Nat} (hk : k < 241) : f_X11_at (some 14) (nI k) U = some (ab_i U 14 k) := by
  have q : ab_in (nI k) 241 = true := in_nI (by omega) (by decide)
  have qc : (nI k).toNatClampNeg = k := nI_clamp (by omega)
  have h2 : ¬ Int32.ofNat 241 ≤ nI k := nI_ge (b := 241) (by omega) (by decide)
  unfold f_X11_at
  simp only [nI_lt0 (show k < 2 ^ 31 by omega), if_false, shp_2, shp_4, shp_6, shp_8, shp_9, shp_10, shp_11, shp_12, shp_13, shp_14, shp_32, shp_33, shp_34, shp_35, shp_36, shp_37, shp_38, shp_39, shp_40, shp_41, shp_42, shp_43, shp_44, shp_45, shp_46, shp_47, shp_48, shp_49, Option.bind_some, ab_let, Option.elim_some, Option.elim_none, h2, q, if_true, qc]
theorem c_ends {U : ab_HP} (hc : cp U) {i : Nat} (hi : i < 241) : ∀ (c j : Nat), j + c = i → ∀ f, c < f → f_X11_endedSoBefore_l2 0 f (nI i) (nI j) U = some (bI (anyb (ab_i U 14) (ab_i U 14 i) c j))
  | 0, j, e, f + 1, _ => by
    rw [f_X11_endedSoBefore_l2, if_pos (nI_le (by omega) (by omega))]
    rfl
  | c + 1, j, e, f + 1, hf => by
    have q : ¬ nI i ≤ nI j := nI_ge (by omega) (by omega)
    have ih := c_ends hc hi c (j + 1) (by omega) f (by omega)
    rw [f_X11_endedSoBefore_l2, if_neg q]
    simp only [hc 0 0 1 rfl, hc 0 1 3 rfl, hc 0 2 5 rfl, hc 0 3 7 rfl, hc 0 4 11 rfl, hc 0 5 12 rfl, hc 0 6 13 rfl, hc 0 7 14 rfl, hc 1 0 2 rfl, hc 3 0 4 rfl, hc 5 0 6 rfl, hc 7 0 8 rfl, hc 7 1 9 rfl, hc 7 2 10 rfl, c_eat (show j < 241 by omega), c_eat hi, Option.bind_some, nI_1, ih, anyb]
    by_cases a : ab_i U 14 j = ab_i U 14 i
    · simp only [a, if_true, decide_true, Bool.true_or, bI_t]
    · simp only [a, if_false, decide_false, Bool.false_or]
  | _, _, _, 0, h => absurd h (Nat.not_lt_zero _)
theorem c_best {N : Nat} {s : Nat → Int32} (ht : tw N s) {d : Nat} (hd8 : d < 8) {el : Nat → Int32} (pn : Int32) (h0 : b10 (s 0)) : ∀ (c k : Nat) (U : ab_HP) (st : mvT × Int32), k + c = (mvl N).length → cp U → td U 1 N s → mvh U (mvl N) → ab_i U (15 + 2 * d) 3 = nI 10 → (∀ k, k < 10 → ab_i U (16 + 2 * d) k = el k) → (∀ j m, j < k → (mvl N)[j]? = some m → ab_i U 14 j = endv (eff s m (s 0, s 1)) ∧ vlu s el N pn (eff s m (s 0, s 1)) ≤ st.2) → ∀ f, c < f → ∃ W, f_X11_bestMove_l21 0 f pn (some (15 + 2 * d)) (nI (mco st.1)) st.2 (nI k) U = some (nI (mco (((mvl N).drop k).foldl (bst s el N pn) st).1), W) ∧ hm U W ∧ mvh W (mvl N)
  | 0, k, U, st, e, hc, hd, H, es, he, hE, f + 1, _ => by
    have hL := mvl_len N (by have := ht.1; omega)
    rw [f_X11_bestMove_l21, H.1, if_pos (nI_le (by omega) (by omega)), List.drop_eq_nil_of_le (by omega)]
    exact ⟨U, rfl, hm_refl U, H⟩
  | c + 1, k, U, st, e, hc, hd, H, es, he, hE, f + 1, hf => by
    have hN := ht.1
    have hL := mvl_len N (by omega)
    have q : ¬ nI (mvl N).length ≤ nI k := nI_ge (by omega) (by omega)
    obtain ⟨m, hmk⟩ : ∃ m, (mvl N)[k]? = some m := ⟨_, List.getElem?_eq_getElem (show k < (mvl N).length by omega)⟩
    have ok := all_ok (mvl_ok N (by omega)) hmk
    obtain ⟨W, w1, w2, w3, w4, w5⟩ := c_pmv ht hc hd ok (s 0) (s 1)
    have A : fr3 U W := ⟨w2, w5⟩
    have hcW := w2.cp hc
    have qk : ab_in (nI k) 241 = true := in_nI (by omega) (by decide)
    have qc : (nI k).toNatClampNeg = k := nI_clamp (by omega)
    have hk2 : ¬ Int32.ofNat 241 ≤ nI k := nI_ge (b := 241) (by omega) (by decide)
    have sto : f_X11_store (some 14) (nI k) (endv (eff s m (s 0, s 1))) W = some (ab_ip W 14 k (endv (eff s m (s 0, s 1)))) := by
      unfold f_X11_store
      simp only [nI_lt0 (show k < 2 ^ 31 by omega), if_false, shp_2, shp_4, shp_6, shp_8, shp_9, shp_10, shp_11, shp_12, shp_13, shp_14, shp_32, shp_33, shp_34, shp_35, shp_36, shp_37, shp_38, shp_39, shp_40, shp_41, shp_42, shp_43, shp_44, shp_45, shp_46, shp_47, shp_48, shp_49, Option.bind_some, ab_let, Option.elim_some, Option.elim_none, hk2, qk, if_true, qc]
    obtain ⟨W1, hW1⟩ : ∃ W1, W1 = ab_ip W 14 k (endv (eff s m (s 0, s 1))) := ⟨_, rfl⟩
    have o14 : ∀ r j, ¬ (r = 14 ∧ j = k) → ab_i W1 r j = ab_i W r j := fun r j g => by rw [hW1, hi_ip, if_neg g]
    have AW : hm W W1 := by rw [hW1]; exact hm_ip (by omega)
    have A1 := w2.trans AW
    have hc1 := AW.cp hcW
    have hd1 := td_hm A1 hN hd
    have H1 : mvh W1 (mvl N) := ⟨(o14 0 8 (by omega)).trans (mvh_fr A H).1, fun j x hx => (o14 13 j (by omega)).trans ((mvh_fr A H).2 j x hx)⟩
    have es1 : ab_i W1 (15 + 2 * d) 3 = nI 10 := by rw [o14 _ _ (by omega), w5 _ _ (by omega) (by omega) (by omega)]; exact es
    have he1 : ∀ k, k < 10 → ab_i W1 (16 + 2 * d) k = el k := fun k hk => by rw [o14 _ _ (by omega), w5 _ _ (by omega) (by omega) (by omega)]; exact he k hk
    have ek : ab_i W1 14 k = endv (eff s m (s 0, s 1)) := by rw [hW1, hi_ip, if_pos ⟨rfl, rfl⟩]
    have eo : ∀ j x, j < k → (mvl N)[j]? = some x → ab_i W1 14 j = endv (eff s x (s 0, s 1)) := fun j x hj hx => by
      rw [o14 _ _ (by omega), w5 _ _ (by decide) (by decide) (by decide)]
      exact (hE j x hj hx).1
    have en := c_ends hc1 (i := k) (by omega) k 0 (by omega) 1000 (by omega)
    rw [show nI 0 = (0 : Int32) from rfl] at en
    have en : f_X11_endedSoBefore 0 (nI k) W1 = some (bI (anyb (ab_i W1 14) (ab_i W1 14 k) k 0)) := by rw [f_X11_endedSoBefore]; exact en
    have ev : ((10000 : Int32) * (eff s m (s 0, s 1)).1) + (eff s m (s 0, s 1)).2 = endv (eff s m (s 0, s 1)) := rfl
    rw [f_X11_bestMove_l21, H.1, if_neg q, drop_cons hmk, List.foldl_cons]
    simp only [hc 0 0 1 rfl, hc 0 1 3 rfl, hc 0 2 5 rfl, hc 0 3 7 rfl, hc 0 4 11 rfl, hc 0 5 12 rfl, hc 0 6 13 rfl, hc 0 7 14 rfl, hc 1 0 2 rfl, hc 3 0 4 rfl, hc 5 0 6 rfl, hc 7 0 8 rfl, hc 7 1 9 rfl, hc 7 2 10 rfl, c_mat H hL hmk, Option.bind_some, hd.1.2.1, hd.1.2.2.1, w1, hcW 0 3 7 rfl, hcW 0 7 14 rfl, w3, w4, ev, sto, ← hW1, en, bI_0]
    have eokm : ∀ x, mok N x = true → eok (eff s x (s 0, s 1)) := fun x hx => by
      have := eff_in ht hx (e := (s 0, s 1)) h0 ht.2.2.2.1
      exact ⟨in_1024 this.1, this.2⟩
    rcases Bool.eq_false_or_eq_true (anyb (ab_i W1 14) (ab_i W1 14 k) k 0) with hb | hb
    · obtain ⟨j, _, j2, j3⟩ := anyb_t k 0 hb
      obtain ⟨x, hx⟩ : ∃ x, (mvl N)[j]? = some x := ⟨_, List.getElem?_eq_getElem (show j < (mvl N).length by omega)⟩
      have okx := all_ok (mvl_ok N (by omega)) hx
      rw [eo j x (by omega) hx, ek, endv_eq (eokm x okx) (eokm m ok)] at j3
      have le := (hE j x (by omega) hx).2
      rw [j3] at le
      have ebs : bst s el N pn st m = st := by unfold bst; rw [if_pos le]
      obtain ⟨X, x1, x2, x3⟩ := c_best ht hd8 pn h0 c (k + 1) W1 st (by omega) hc1 hd1 H1 es1 he1 (fun i y hi hy => by
        by_cases g : i = k
        · subst g
          rw [hmk] at hy
          cases hy
          exact ⟨ek, le⟩
        · exact ⟨eo i y (by omega) hy, (hE i y (by omega) hy).2⟩) f (by omega)
      simp only [hb, Bool.true_eq_false, if_false, nI_1]
      rw [ebs]
      exact ⟨X, x1, A1.trans x2, x3⟩
    · obtain ⟨Y, y1, y2⟩ := c_wom ht hd8 pn hc1 hd1 H1 es1 he1 ok
      have A2 := A1.trans y2.1
      have hcY := y2.1.cp hc1
      have esY : ab_i Y (15 + 2 * d) 3 = nI 10 := by rw [y2.2 _ _ (by omega) (by omega) (by omega)]; exact es1
      have heY : ∀ k, k < 10 → ab_i Y (16 + 2 * d) k = el k := fun k hk => by rw [y2.2 _ _ (by omega) (by omega) (by omega)]; exact he1 k hk
      have eY : ∀ j, ab_i Y 14 j = ab_i W1 14 j := fun j => y2.2 14 j (by decide) (by decide) (by decide)
      simp only [hb, if_true, y1, Option.bind_some, nI_1]
      by_cases le : vlu s el N pn (eff s m (s 0, s 1)) ≤ st.2
      · have ebs : bst s el N pn st m = st := by unfold bst; rw [if_pos le]
        obtain ⟨X, x1, x2, x3⟩ := c_best ht hd8 pn h0 c (k + 1) Y st (by omega) hcY (td_hm y2.1 hN hd1) (mvh_fr y2 H1) esY heY (fun i y hi hy => by
          rw [eY]
          by_cases g : i = k
          · subst g
            rw [hmk] at hy
            cases hy
            exact ⟨ek, le⟩
          · exact ⟨eo i y (by omega) hy, (hE i y (by omega) hy).2⟩) f (by omega)
        simp only [le, if_true]
        rw [ebs]
        exact ⟨X, x1, A2.trans x2, x3⟩
      · have ebs : bst s el N pn st m = (m, vlu s el N pn (eff s m (s 0, s 1))) := by unfold bst; rw [if_neg le]
        obtain ⟨X, x1, x2, x3⟩ := c_best ht hd8 pn h0 c (k + 1) Y (m, vlu s el N pn (eff s m (s 0, s 1))) (by omega) hcY (td_hm y2.1 hN hd1) (mvh_fr y2 H1) esY heY (fun i y hi hy => by
          rw [eY]
          by_cases g : i = k
          · subst g
            rw [hmk] at hy
            cases hy
            exact ⟨ek, by rw [n_le]; exact Int.le_refl _⟩
          · have h1 := (hE i y (by omega) hy).2
            refine ⟨eo i y (by omega) hy, ?_⟩
            show vlu s el N pn (eff s y (s 0, s 1)) ≤ vlu s el N pn (eff s m (s 0, s 1))
            rw [n_le] at h1 le ⊢
            omega) f (by omega)
        simp only [le, if_false]
        rw [ebs]
        exact ⟨X, x1, A2.trans x2, x3⟩
  | _, _, _, _, _, _, _, _, _, _, _, 0, h => absurd h (Nat.not_lt_zero _)
end BST
