section FRE
theorem foldl_b {s : Nat → Int32} {l : Nat → Nat} {n : Nat} {wd : Int32} : ∀ (L : List (List Nat)) (st : fST), stb st → stb (L.foldl (fstp s l n wd) st)
  | [], _, h => h
  | p :: L, st, h => foldl_b L _ (fstp_b p h)
theorem og_app1 (pre : List Nat) (k : Nat) : og (pre ++ [k]) pre.length = k := by
  unfold og
  rw [List.getD_eq_getElem?_getD, List.getElem?_append_right (Nat.le_refl _), Nat.sub_self]
  rfl
theorem og_app2 {pre : List Nat} {k j : Nat} (h : j < pre.length) : og (pre ++ [k]) j = og pre j := by
  unfold og
  rw [List.getD_eq_getElem?_getD, List.getD_eq_getElem?_getD, List.getElem?_append_left h]
theorem mli_pre {g0 V : ab_HP} {n k : Nat} {pre : List Nat} {st : fST} (H : mli g0 V n (pre ++ [k]) st) : mli g0 V n pre st := by
  obtain ⟨h1, h2, h3, h4, h5, h6⟩ := H
  exact ⟨h1, h2, h3, fun j hj => by rw [h4 j (by rw [List.length_append]; omega), og_app2 hj], h5, h6⟩
theorem m_l141 {g0 : ab_HP} {s : Nat → Int32} {l : Nat → Nat} {wd : Int32} {d n : Nat} (hn : n ≤ 5) (self : Nat → Int32 → Int32 → Int32 → Int32 → ab_HP → Option ab_HP) (F : List Nat → List (List Nat)) {pre : List Nat} (hpl : pre.length < n) {seen : Int32} (hs : ∀ k, k < n → (bt seen k = true ↔ k ∈ pre)) (rec : ∀ k, k < n → ¬ k ∈ pre → ∀ V st, mli g0 V n (pre ++ [k]) st → stb st → ∃ X, self 31 (nI d) (nI (pre.length + 1)) (seen ||| pbit k) wd V = some X ∧ mli g0 X n (pre ++ [k]) ((F (pre ++ [k])).foldl (fstp s l n wd) st)) : ∀ (m k : Nat) (V : ab_HP) (st : fST), k + m = n → mli g0 V n pre st → stb st → ∀ f, m < f → ∃ X, f_X12_lines_l141 self 31 f (nI d) (nI pre.length) seen wd (nI n) (nI k) V = some X ∧ mli g0 X n pre ((pmr F pre m k).foldl (fstp s l n wd) st)
  | 0, k, V, st, e, H, hst, f + 1, _ => by
    rw [f_X12_lines_l141, if_pos (nI_le (by omega) (by omega))]
    exact ⟨V, rfl, H⟩
  | m + 1, k, V, st, e, H, hst, f + 1, hf => by
    have q : ¬ nI n ≤ nI k := nI_ge (by omega) (by omega)
    rw [f_X12_lines_l141, if_neg q, pmr]
    simp only [bt_has1 seen (show k < 32 by omega), nI_1]
    by_cases a : k ∈ pre
    · have ac : pre.contains k = true := by simp [a]
      have ab : bt seen k = true := (hs k (by omega)).mpr a
      simp only [ab, ac, if_true, List.nil_append]
      exact m_l141 hn self F hpl hs rec m (k + 1) V st (by omega) H hst f (by omega)
    · have ac : pre.contains k = false := by simp [a]
      have ab : ¬ bt seen k = true := fun x => a ((hs k (by omega)).mp x)
      obtain ⟨B, hp, h24, h47, h34, h33⟩ := H
      have b2 : ab_in (nI pre.length) 5 = true := in_nI (by omega) (by decide)
      have c2 : (nI pre.length).toNatClampNeg = pre.length := nI_clamp (by omega)
      have o : ∀ r j, ¬ (r = 47 ∧ j = pre.length) → ab_i (ab_ip V 47 pre.length (nI k)) r j = ab_i V r j := fun r j g => by rw [hi_ip, if_neg g]
      have H2 : mli g0 (ab_ip V 47 pre.length (nI k)) n (pre ++ [k]) st := by
        refine ⟨B.trans (gm_ip (by omega)), mp_ip hp _ _ _, (o _ _ (by omega)).trans h24, fun j hj => ?_, (o _ _ (by omega)).trans h34, fun x hx => (o _ _ (by omega)).trans (h33 x hx)⟩
        by_cases g : j = pre.length
        · subst g
          rw [og_app1, hi_ip, if_pos ⟨rfl, rfl⟩]
        · rw [List.length_append] at hj
          have hj : j < pre.length + 1 := hj
          rw [og_app2 (by omega), o _ _ (by omega)]
          exact h47 j (by omega)
      obtain ⟨X, x1, x2⟩ := rec k (by omega) a _ st H2 hst
      obtain ⟨Y, y1, y2⟩ := m_l141 hn self F hpl hs rec m (k + 1) X _ (by omega) (mli_pre x2) (foldl_b _ st hst) f (by omega)
      refine ⟨Y, ?_, ?_⟩
      · simp only [ab, if_false, Option.bind_some, ab_let, Option.elim_some, Option.elim_none, hp 32, mp_0, mp_1, mp_2, mp_3, mp_4, mp_5, mp_6, mp_7, mp_8, mp_16, mp_19, mp_20, mp_21, mp_22, mp_23, mp_32, mp_39, shp_2, shp_4, shp_6, shp_8, shp_9, shp_10, shp_11, shp_12, shp_13, shp_14, shp_32, shp_33, shp_34, shp_35, shp_36, shp_37, shp_38, shp_39, shp_40, shp_41, shp_42, shp_43, shp_44, shp_45, shp_46, shp_47, shp_48, shp_49, b2, c2, if_true]
        rw [show (seen ||| (1 : Int32) <<< (nI k &&& 31)) = seen ||| pbit k from rfl, x1]
        exact y1
      · rw [ac, List.foldl_append]
        exact y2
  | _, _, _, _, _, _, _, 0, h => absurd h (Nat.not_lt_zero _)
theorem m_lines {g0 : ab_HP} {N : Nat} (ht : tw N (ab_i g0 32)) {d n : Nat} (hd : d < 8) (hn : n ≤ 5) {l : Nat → Nat} (wd : Int32) (es : ab_i g0 37 d = nI n) (el : ∀ j, j < n → ab_i g0 38 (100 * d + j) = nI (l j) ∧ l j < N) : ∀ (c : Nat) (pre : List Nat), pre.length + c = n → (∀ k, k < pre.length → og pre k < n) → ∀ (seen : Int32), (∀ k, k < n → (bt seen k = true ↔ k ∈ pre)) → ∀ F, c < F → ∀ V st, mli g0 V n pre st → stb st → ∃ X, f_X12_lines_rec F 31 (nI d) (nI pre.length) seen wd V = some X ∧ mli g0 X n pre ((pm n c pre).foldl (fstp (ab_i g0 32) l n wd) st)
  | 0, pre, e, hpn, seen, hs, F + 1, _, V, st, H, hst => by
    have e : pre.length = n := by omega
    have q8 : ab_in (nI d) 8 = true := in_nI hd (by decide)
    have qc : (nI d).toNatClampNeg = d := nI_clamp (by omega)
    have e5 : ab_i V 37 d = nI n := by rw [H.1.2.1 37 d (by omega)]; exact es
    have hp := H.2.1
    rw [f_X12_lines_rec]
    unfold f_X12_lines
    rw [e]
    simp only [Option.bind_some, ab_let, Option.elim_some, Option.elim_none, hp 5, mp_0, mp_1, mp_2, mp_3, mp_4, mp_5, mp_6, mp_7, mp_8, mp_16, mp_19, mp_20, mp_21, mp_22, mp_23, mp_32, mp_39, shp_2, shp_4, shp_6, shp_8, shp_9, shp_10, shp_11, shp_12, shp_13, shp_14, shp_32, shp_33, shp_34, shp_35, shp_36, shp_37, shp_38, shp_39, shp_40, shp_41, shp_42, shp_43, shp_44, shp_45, shp_46, shp_47, shp_48, shp_49, q8, qc, if_true, e5]
    exact m_leaf _ ht hd hn wd el e (fun k hk => hpn k (by omega)) hst H
  | c + 1, pre, e, hpn, seen, hs, F + 1, hF, V, st, H, hst => by
    have q8 : ab_in (nI d) 8 = true := in_nI hd (by decide)
    have qc : (nI d).toNatClampNeg = d := nI_clamp (by omega)
    have e5 : ab_i V 37 d = nI n := by rw [H.1.2.1 37 d (by omega)]; exact es
    have ne : ¬ nI pre.length = nI n := fun x => by
      have := (nI_eq (by omega) (by omega)).mp x
      omega
    have hp := H.2.1
    rw [f_X12_lines_rec]
    unfold f_X12_lines
    simp only [Option.bind_some, ab_let, Option.elim_some, Option.elim_none, hp 5, mp_0, mp_1, mp_2, mp_3, mp_4, mp_5, mp_6, mp_7, mp_8, mp_16, mp_19, mp_20, mp_21, mp_22, mp_23, mp_32, mp_39, shp_2, shp_4, shp_6, shp_8, shp_9, shp_10, shp_11, shp_12, shp_13, shp_14, shp_32, shp_33, shp_34, shp_35, shp_36, shp_37, shp_38, shp_39, shp_40, shp_41, shp_42, shp_43, shp_44, shp_45, shp_46, shp_47, shp_48, shp_49, q8, qc, if_true, e5, ne, if_false]
    have r := m_l141 (g0 := g0) (s := ab_i g0 32) (l := l) (wd := wd) (d := d) hn (f_X12_lines_rec F) (pm n c) (pre := pre) (show pre.length < n by omega) hs (fun k hk hk2 V st H2 hst2 => by
      have := m_lines ht hd hn wd es el c (pre ++ [k]) (by rw [List.length_append]; show pre.length + 1 + c = n; omega) (fun j hj => by
        rw [List.length_append] at hj
        have hj : j < pre.length + 1 := hj
        by_cases g : j = pre.length
        · subst g; rw [og_app1]; exact hk
        · rw [og_app2 (by omega)]; exact hpn j (by omega)) (seen ||| pbit k) (fun j hj => by
        rw [bt_orp seen (by omega) (by omega), Bool.or_eq_true, hs j hj, decide_eq_true_eq, List.mem_append, List.mem_singleton]) F (by omega) V st H2 hst2
      rw [List.length_append] at this
      exact this) n 0 V st (by omega) H hst 1000 (by omega)
    exact r
  | _, _, _, _, _, _, 0, h, _, _, _, _ => absurd h (Nat.not_lt_zero _)
theorem c_ol11 {d : Nat} (wd wh : Int32) : ∀ (c i : Nat) (U : ab_HP), i + c = 5 → ab_r U 0 5 = some 12 → (∀ j, j < i → ab_i U 12 j = nI j) → ∀ f, c < f → ∃ X, f_X11_freest_l11 0 f (some (15 + 2 * d)) wd wh (-4) (-4) (nI i) U = f_X11_freest_l42 0 1000 (some (15 + 2 * d)) wd wh (-4) (-4) 1 0 X ∧ o12 U X ∧ ∀ j, j < 5 → ab_i X 12 j = nI j
  | 0, i, U, e, hr, h12, f + 1, _ => by
    have e : i = 5 := by omega
    subst e
    rw [f_X11_freest_l11]
    simp only [hr, Option.bind_some, ab_let, Option.elim_some, Option.elim_none, shp_2, shp_4, shp_6, shp_8, shp_9, shp_10, shp_11, shp_12, shp_13, shp_14, shp_32, shp_33, shp_34, shp_35, shp_36, shp_37, shp_38, shp_39, shp_40, shp_41, shp_42, shp_43, shp_44, shp_45, shp_46, shp_47, shp_48, shp_49, show (Int32.ofNat 5 ≤ nI 5) = True from eq_true (by decide), if_true]
    exact ⟨U, rfl, o12_refl U, h12⟩
  | c + 1, i, U, e, hr, h12, f + 1, hf => by
    have q : ab_in (nI i) 5 = true := in_nI (by omega) (by decide)
    have qc : (nI i).toNatClampNeg = i := nI_clamp (by omega)
    have h2 : ¬ Int32.ofNat 5 ≤ nI i := nI_ge (b := 5) (by omega) (by decide)
    obtain ⟨X, x1, x2, x3⟩ := c_ol11 (d := d) wd wh c (i + 1) (ab_ip U 12 i (nI i)) (by omega) hr (fun j hj => by
      by_cases g : j = i
      · subst g; rw [hi_ip, if_pos ⟨rfl, rfl⟩]
      · rw [hi_ip, if_neg (by omega)]; exact h12 j (by omega)) f (by omega)
    rw [f_X11_freest_l11]
    simp only [hr, Option.bind_some, ab_let, Option.elim_some, Option.elim_none, shp_2, shp_4, shp_6, shp_8, shp_9, shp_10, shp_11, shp_12, shp_13, shp_14, shp_32, shp_33, shp_34, shp_35, shp_36, shp_37, shp_38, shp_39, shp_40, shp_41, shp_42, shp_43, shp_44, shp_45, shp_46, shp_47, shp_48, shp_49, h2, if_false, q, qc, if_true, nI_1]
    exact ⟨X, x1, o12_ip.trans x2, x3⟩
  | _, _, _, _, _, _, 0, h => absurd h (Nat.not_lt_zero _)
end FRE
