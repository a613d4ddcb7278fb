section WOR
def wsm (el : Nat → Int32) (so : Int32) : Nat → Nat → Int32 → Int32
  | 0, _, a => a
  | c + 1, k, a => wsm el so c (k + 1) (if bt so k = true then a + el k else a)
def wth (el : Nat → Int32) (so : Int32) : Int32 := wsm el so 10 0 0
def mxs (s : Nat → Int32) (el : Nat → Int32) (e : Int32 × Int32) (a : Int32) (m : mvT) : Int32 := if a < wth el (eff s m e).1 then wth el (eff s m e).1 else a
def vlu (s : Nat → Int32) (el : Nat → Int32) (N : Nat) (pn : Int32) (e : Int32 × Int32) : Int32 := if pn = 1 then wth el e.1 else ((mvl N).drop 1).foldl (mxs s el e) (wth el e.1)
theorem c_wsm {U : ab_HP} (hc : cp U) {d : Nat} (hd : d < 8) (es : ab_i U (15 + 2 * d) 3 = nI 10) (so : Int32) : ∀ (c k : Nat) (a : Int32), k + c = 10 → ∀ f, c < f → f_X11_worthOfMarks_l4 f so (some (15 + 2 * d)) a (nI k) U = some (wsm (ab_i U (16 + 2 * d)) so c k a)
  | 0, k, a, e, f + 1, _ => by
    have e : k = 10 := by omega
    subst e
    rw [f_X11_worthOfMarks_l4, if_pos (show (10 : Int32) ≤ nI 10 by decide), wsm]
  | c + 1, k, a, e, f + 1, hf => by
    have q : ¬ (10 : Int32) ≤ nI k := nI_ge (b := 10) (by omega) (by decide)
    have ih := fun a => c_wsm hc hd es so c (k + 1) a (by omega) f (by omega)
    rw [f_X11_worthOfMarks_l4, if_neg q, wsm]
    simp only [bt_has so (show k < 32 by omega), Option.bind_some, ab_let, Option.elim_some, Option.elim_none, c_rd hc hd (show 10 ≤ 100 by decide) es (show k < 10 by omega), nI_1, ih]
    rcases Bool.eq_false_or_eq_true (bt so k) with hb | hb
    · simp only [hb, Bool.true_eq_false, if_false, if_true]
    · simp only [hb, Bool.false_eq_true, if_false, if_true]
  | _, _, _, _, 0, h => absurd h (Nat.not_lt_zero _)
theorem c_wth {U : ab_HP} (hc : cp U) {d : Nat} (hd : d < 8) (es : ab_i U (15 + 2 * d) 3 = nI 10) {el : Nat → Int32} (he : ∀ k, k < 10 → ab_i U (16 + 2 * d) k = el k) (so : Int32) : f_X11_worthOfMarks so (some (15 + 2 * d)) U = some (wth el so) := by
  have cg : ∀ (c k : Nat) (a : Int32), k + c = 10 → wsm (ab_i U (16 + 2 * d)) so c k a = wsm el so c k a := by
    intro c
    induction c with
    | zero => intro k a _; rfl
    | succ c ih =>
      intro k a e
      rw [wsm, wsm, he k (by omega), ih (k + 1) _ (by omega)]
  rw [f_X11_worthOfMarks]
  have := c_wsm hc hd es so 10 0 0 (by omega) 1000 (by omega)
  rw [show nI 0 = (0 : Int32) from rfl, cg 10 0 0 (by omega)] at this
  exact this
/-- what stays while moves are tried -/
def fr3 (h w : ab_HP) : Prop := hm h w ∧ ∀ r k, r ≠ 7 → r ≠ 9 → r ≠ 10 → ab_i w r k = ab_i h r k
theorem fr3_refl (h : ab_HP) : fr3 h h := ⟨hm_refl h, fun _ _ _ _ _ => rfl⟩
theorem fr3.trans {a b c : ab_HP} (H : fr3 a b) (G : fr3 b c) : fr3 a c := ⟨H.1.trans G.1, fun r k h1 h2 h3 => (G.2 r k h1 h2 h3).trans (H.2 r k h1 h2 h3)⟩
theorem mvh_fr {U W : ab_HP} {L : List mvT} (A : fr3 U W) (H : mvh U L) : mvh W L := ⟨by rw [A.2 0 8 (by decide) (by decide) (by decide)]; exact H.1, fun j m hm => by rw [A.2 13 j (by decide) (by decide) (by decide)]; exact H.2 j m hm⟩
theorem c_mat {U : ab_HP} {L : List mvT} (H : mvh U L) (hL : L.length ≤ 241) {k : Nat} {m : mvT} (hm : L[k]? = some m) : f_X11_at (some 13) (nI k) U = some (nI (mco m)) := by
  have hk : k < L.length := (List.getElem?_eq_some_iff.mp hm).1
  have q : ab_in (nI k) 241 = true := in_nI (by omega) (by decide)
  have qc : (nI k).toNatClampNeg = k := nI_clamp (by omega)
  have h2 : ¬ Int32.ofNat 241 ≤ nI k := nI_ge (b := 241) (by omega) (by decide)
  unfold f_X11_at
  simp only [nI_lt0 (show k < 2 ^ 31 by omega), if_false, shp_2, shp_4, shp_6, shp_8, shp_9, shp_10, shp_11, shp_12, shp_13, shp_14, shp_32, shp_33, shp_34, shp_35, shp_36, shp_37, shp_38, shp_39, shp_40, shp_41, shp_42, shp_43, shp_44, shp_45, shp_46, shp_47, shp_48, shp_49, Option.bind_some, ab_let, Option.elim_some, Option.elim_none, h2, q, if_true, qc, H.2 k m hm]
theorem drop_cons {L : List mvT} {k : Nat} {m : mvT} (hm : L[k]? = some m) : L.drop k = m :: L.drop (k + 1) := by
  obtain ⟨hk, e⟩ := List.getElem?_eq_some_iff.mp hm
  rw [List.drop_eq_getElem_cons hk, e]
theorem all_ok {L : List mvT} {N k : Nat} {m : mvT} (ha : L.all (mok N) = true) (hm : L[k]? = some m) : mok N m = true := List.all_eq_true.mp ha m (List.mem_of_getElem? hm)
theorem c_l61 {N : Nat} {s : Nat → Int32} (ht : tw N s) {d : Nat} (hd8 : d < 8) {el : Nat → Int32} {L : List mvT} (hL : L.length ≤ 241) (ha : L.all (mok N) = true) (so c0 : Int32) : ∀ (c k : Nat) (U : ab_HP) (acc : Int32), k + c = L.length → cp U → td U 1 N s → mvh U L → ab_i U (15 + 2 * d) 3 = nI 10 → (∀ k, k < 10 → ab_i U (16 + 2 * d) k = el k) → ∀ f, c < f → ∃ W, f_X11_worthOfMove_l61 0 f (some (15 + 2 * d)) acc so c0 (nI k) U = some ((L.drop k).foldl (mxs s el (so, c0)) acc, W) ∧ fr3 U W
  | 0, k, U, acc, e, hc, hd, H, es, he, f + 1, _ => by
    rw [f_X11_worthOfMove_l61, H.1, if_pos (nI_le (by omega) (by omega)), List.drop_eq_nil_of_le (by omega)]
    exact ⟨U, rfl, fr3_refl U⟩
  | c + 1, k, U, acc, e, hc, hd, H, es, he, f + 1, hf => by
    have q : ¬ nI L.length ≤ nI k := nI_ge (by omega) (by omega)
    obtain ⟨m, hm⟩ : ∃ m, L[k]? = some m := ⟨_, List.getElem?_eq_getElem (show k < L.length by omega)⟩
    have ok := all_ok ha hm
    obtain ⟨W, w1, w2, w3, w4, w5⟩ := c_pmv ht hc hd ok so c0
    have A : fr3 U W := ⟨w2, w5⟩
    have hcW := w2.cp hc
    have esW : ab_i W (15 + 2 * d) 3 = nI 10 := by rw [w5 _ _ (by omega) (by omega) (by omega)]; exact es
    have heW : ∀ k, k < 10 → ab_i W (16 + 2 * d) k = el k := fun k hk => by rw [w5 _ _ (by omega) (by omega) (by omega)]; exact he k hk
    obtain ⟨X, x1, x2⟩ := c_l61 ht hd8 hL ha so c0 c (k + 1) W (mxs s el (so, c0) acc m) (by omega) hcW (td_hm w2 ht.1 hd) (mvh_fr A H) esW heW f (by omega)
    refine ⟨X, ?_, A.trans x2⟩
    rw [f_X11_worthOfMove_l61, H.1, if_neg q]
    simp only [hc 0 0 1 rfl, hc 0 1 3 rfl, hc 0 2 5 rfl, hc 0 3 7 rfl, hc 0 4 11 rfl, hc 0 5 12 rfl, hc 0 6 13 rfl, hc 0 7 14 rfl, hc 1 0 2 rfl, hc 3 0 4 rfl, hc 5 0 6 rfl, hc 7 0 8 rfl, hc 7 1 9 rfl, hc 7 2 10 rfl, c_mat H hL hm, Option.bind_some, w1, hcW 0 3 7 rfl, w3, c_wth hcW hd8 esW heW, nI_1]
    rw [drop_cons hm, List.foldl_cons]
    exact x1
  | _, _, _, _, _, _, _, _, _, _, 0, h => absurd h (Nat.not_lt_zero _)
theorem c_wom {N : Nat} {s : Nat → Int32} (ht : tw N s) {d : Nat} (hd8 : d < 8) {el : Nat → Int32} (pn : Int32) {U : ab_HP} (hc : cp U) (hd : td U 1 N s) (H : mvh U (mvl N)) (es : ab_i U (15 + 2 * d) 3 = nI 10) (he : ∀ k, k < 10 → ab_i U (16 + 2 * d) k = el k) {m : mvT} (ok : mok N m = true) : ∃ W, f_X11_worthOfMove 0 (nI (mco m)) pn (some (15 + 2 * d)) U = some (vlu s el N pn (eff s m (s 0, s 1)), W) ∧ fr3 U W := by
  have hN := ht.1
  have hL := mvl_len N (by omega)
  obtain ⟨W, w1, w2, w3, w4, w5⟩ := c_pmv ht hc hd ok (s 0) (s 1)
  have A : fr3 U W := ⟨w2, w5⟩
  have hcW := w2.cp hc
  have esW : ab_i W (15 + 2 * d) 3 = nI 10 := by rw [w5 _ _ (by omega) (by omega) (by omega)]; exact es
  have heW : ∀ k, k < 10 → ab_i W (16 + 2 * d) k = el k := fun k hk => by rw [w5 _ _ (by omega) (by omega) (by omega)]; exact he k hk
  have len1 : 1 ≤ (mvl N).length := by unfold mvl; rw [List.length_append, mset_len]; omega
  obtain ⟨X, x1, x2⟩ := c_l61 ht hd8 hL (mvl_ok N (by omega)) (eff s m (s 0, s 1)).1 (eff s m (s 0, s 1)).2 ((mvl N).length - 1) 1 W (wth el (eff s m (s 0, s 1)).1) (by omega) hcW (td_hm w2 hN hd) (mvh_fr A H) esW heW 1000 (by omega)
  rw [show nI 1 = (1 : Int32) from rfl] at x1
  unfold f_X11_worthOfMove vlu
  simp only [hc 0 0 1 rfl, hc 0 1 3 rfl, hc 0 2 5 rfl, hc 0 3 7 rfl, hc 0 4 11 rfl, hc 0 5 12 rfl, hc 0 6 13 rfl, hc 0 7 14 rfl, hc 1 0 2 rfl, hc 3 0 4 rfl, hc 5 0 6 rfl, hc 7 0 8 rfl, hc 7 1 9 rfl, hc 7 2 10 rfl, Option.bind_some, hd.1.2.1, hd.1.2.2.1, w1, hcW 0 3 7 rfl, w3, w4, c_wth hcW hd8 esW heW]
  by_cases p : pn = 1
  · rw [if_pos p, if_pos p]
    exact ⟨W, rfl, A⟩
  · rw [if_neg p, if_neg p]
    exact ⟨X, x1, A.trans x2⟩
end WOR
