section LST
/-! what a list is refused with -/
def p_lr (el : Nat → Int32) (N : Nat) : Nat → Nat → Int32
  | 0, _ => 0
  | c + 1, k => if 0 ≤ (el k).toInt ∧ (el k).toInt < N then p_lr el N c (k + 1) else -13
def g_el (g : ab_HP) (d k : Nat) : Int32 := ab_i g 38 (100 * d + k)
theorem c_lr {h g : ab_HP} (hc : cp h) {N : Nat} (ht : tw N (ab_i g 32)) (hd1 : td h 1 N (ab_i g 32)) {d n : Nat} (hd : d < 8) (hn : n ≤ 100) (es : ab_i h (15 + 2 * d) 3 = nI n) (el : ∀ k, k < n → ab_i h (16 + 2 * d) k = g_el g d k) : ∀ (c k : Nat), k + c = n → ∀ f, c < f → f_X11_listRefusal_l38 0 f (some (15 + 2 * d)) (nI k) h = some (p_lr (g_el g d) N c k)
  | 0, k, e, f + 1, _ => by
    have e : k = n := by omega
    subst e
    rw [f_X11_listRefusal_l38]
    simp only [Option.bind_some, ab_let, Option.elim_some, Option.elim_none, es]
    rw [if_pos (nI_le (Nat.le_refl _) (by omega))]
    rfl
  | c + 1, k, e, f + 1, hf => by
    have q : ¬ nI n ≤ nI k := nI_ge (by omega) (by omega)
    have ih := c_lr hc ht hd1 hd hn es el c (k + 1) (by omega) f (by omega)
    rw [f_X11_listRefusal_l38]
    simp only [Option.bind_some, ab_let, Option.elim_some, Option.elim_none, es, q, if_false, c_rd hc hd hn es (show k < n by omega), el k (by omega), hc 0 0 1 rfl, hc 0 1 3 rfl, hc 0 2 5 rfl, hc 0 3 7 rfl, hc 0 4 11 rfl, hc 0 5 12 rfl, hc 0 6 13 rfl, hc 0 7 14 rfl, hc 1 0 2 rfl, hc 3 0 4 rfl, hc 5 0 6 rfl, hc 7 0 8 rfl, hc 7 1 9 rfl, hc 7 2 10 rfl, p_lr]
    by_cases b : 0 ≤ (g_el g d k).toInt ∧ (g_el g d k).toInt < N
    · obtain ⟨x, hx, ex⟩ := n_in b.1 b.2
      obtain ⟨r, e1, e2, e3⟩ := gr_deed hc ht hd1 hx
      rw [if_pos b]
      simp only [ex, e1, Option.bind_some, ab_let, Option.elim_some, Option.elim_none, nI_1, ih]
    · rw [if_neg b]
      simp only [gr_deedf ht hd1 (show (g_el g d k).toInt < 0 ∨ (N : Int) ≤ (g_el g d k).toInt by omega), Option.bind_some, ab_let, Option.elim_some, Option.elim_none]
  | _, _, _, 0, h => absurd h (Nat.not_lt_zero _)
theorem m_lr (g : ab_HP) (hp : mp g) {N : Nat} (ht : tw N (ab_i g 32)) {d n : Nat} (hd : d < 8) (hn : n ≤ 100) (es : ab_i g 37 d = nI n) : ∀ (c k : Nat), k + c = n → ∀ f, c < f → f_X12_wrongList_l29 31 f (nI d) (nI k) g = some (p_lr (g_el g d) N c k)
  | 0, k, e, f + 1, _ => by
    have e : k = n := by omega
    subst e
    have q8 : ab_in (nI d) 8 = true := in_nI hd (by decide)
    have qc : (nI d).toNatClampNeg = d := nI_clamp (by omega)
    rw [f_X12_wrongList_l29]
    simp only [Option.bind_some, ab_let, Option.elim_some, Option.elim_none, hp 5, mp_0, mp_1, mp_2, mp_3, mp_4, mp_5, mp_6, mp_7, mp_8, mp_16, mp_19, mp_20, mp_21, mp_22, mp_23, mp_32, mp_39, shp_2, shp_4, shp_6, shp_8, shp_9, shp_10, shp_11, shp_12, shp_13, shp_14, shp_32, shp_33, shp_34, shp_35, shp_36, shp_37, shp_38, shp_39, shp_40, shp_41, shp_42, shp_43, shp_44, shp_45, shp_46, shp_47, shp_48, shp_49, q8, qc, if_true, es]
    rw [if_pos (nI_le (Nat.le_refl _) (by omega))]
    rfl
  | c + 1, k, e, f + 1, hf => by
    have q8 : ab_in (nI d) 8 = true := in_nI hd (by decide)
    have qc : (nI d).toNatClampNeg = d := nI_clamp (by omega)
    have q : ¬ nI n ≤ nI k := nI_ge (by omega) (by omega)
    have a1 : (100 : Int32) * nI d + nI k = nI (100 * d + k) := by rw [n_lit 100, nI_mul, nI_add]
    have b1 : ab_in (nI (100 * d + k)) 800 = true := in_nI (by omega) (by decide)
    have c1 : (nI (100 * d + k)).toNatClampNeg = 100 * d + k := nI_clamp (by omega)
    have ih := m_lr g hp ht hd hn es c (k + 1) (by omega) f (by omega)
    rw [f_X12_wrongList_l29]
    simp only [Option.bind_some, ab_let, Option.elim_some, Option.elim_none, hp 5, hp 6, mp_0, mp_1, mp_2, mp_3, mp_4, mp_5, mp_6, mp_7, mp_8, mp_16, mp_19, mp_20, mp_21, mp_22, mp_23, mp_32, mp_39, shp_2, shp_4, shp_6, shp_8, shp_9, shp_10, shp_11, shp_12, shp_13, shp_14, shp_32, shp_33, shp_34, shp_35, shp_36, shp_37, shp_38, shp_39, shp_40, shp_41, shp_42, shp_43, shp_44, shp_45, shp_46, shp_47, shp_48, shp_49, q8, qc, if_true, es, q, if_false, a1, b1, c1, m_isDeed g hp ht.1 ht.2.1, bI_0, decide_eq_false_iff_not, nI_1, ih, p_lr, show ab_i g 38 (100 * d + k) = g_el g d k from rfl]
    by_cases b : 0 ≤ (g_el g d k).toInt ∧ (g_el g d k).toInt < N
    · rw [if_neg (not_not_intro b), if_pos b]
    · rw [if_pos b, if_neg b]
  | _, _, _, 0, h => absurd h (Nat.not_lt_zero _)
/-- the refusal of a list: none, or the same on both sides; where there is none, the list is there -/
theorem lst {h g : ab_HP} (H : gr h g) (i : Int32) : (∃ a, a ≠ 0 ∧ f_X11_listRefusal 0 i h = some a ∧ f_X12_wrongList 31 i g = some a) ∨ (f_X11_listRefusal 0 i h = some 0 ∧ f_X12_wrongList 31 i g = some 0 ∧ ∃ d n, d < 8 ∧ i = nI d ∧ n ≤ 8 ∧ ab_i h (15 + 2 * d) 3 = nI n ∧ ab_i g 37 d = nI n ∧ (∀ k, k < n → ab_i h (16 + 2 * d) k = g_el g d k) ∧ ∀ N, tw N (ab_i g 32) → p_lr (g_el g d) N n 0 = 0) := by
  obtain ⟨hc, hp, h50, ⟨N, ht, hd1⟩, hi, hs⟩ := H
  unfold f_X11_listRefusal f_X12_wrongList
  rcases i_split 8 (by decide) i with ⟨d, hd, rfl⟩ | hn
  · have F := hs d hd
    have q8 : ab_in (nI d) 8 = true := in_nI hd (by decide)
    have qc : (nI d).toNatClampNeg = d := nI_clamp (by omega)
    simp only [c_shelf hc hd, m_rowB g hp hd, c_byt F, Option.bind_some, ab_let, Option.elim_some, Option.elim_none, hp 5, mp_0, mp_1, mp_2, mp_3, mp_4, mp_5, mp_6, mp_7, mp_8, mp_16, mp_19, mp_20, mp_21, mp_22, mp_23, mp_32, mp_39, shp_2, shp_4, shp_6, shp_8, shp_9, shp_10, shp_11, shp_12, shp_13, shp_14, shp_32, shp_33, shp_34, shp_35, shp_36, shp_37, shp_38, shp_39, shp_40, shp_41, shp_42, shp_43, shp_44, shp_45, shp_46, shp_47, shp_48, shp_49, q8, qc, if_true]
    by_cases w0 : w_byt g d = 0
    · rw [if_pos w0, if_pos w0]
      have k2 : ab_i g 35 d = 2 := by
        unfold w_byt at w0
        by_cases a : ab_i g 35 d = 0
        · rw [if_pos a] at w0; exact absurd w0 (by decide)
        · rw [if_neg a] at w0
          by_cases b : ab_i g 35 d = 2
          · exact b
          · rw [if_neg b] at w0; exact absurd w0 (by decide)
      rcases F with ⟨F1, _⟩ | ⟨F1, _⟩ | ⟨F1, F2, F3, F4, F5, n, F6, F7, F8⟩
      · rw [F1] at k2; exact absurd k2 (by decide)
      · rw [F1] at k2; exact absurd k2 (by decide)
      rw [F5, F7]
      by_cases n8 : n ≤ 8
      · rw [if_pos (show nI n ≤ 8 from nI_le (b := 8) n8 (by decide)), if_pos (show nI n ≤ 8 from nI_le (b := 8) n8 (by decide))]
        have e1 := c_lr hc ht hd1 hd F6 (F5.trans F7) F8 n 0 (by omega) 1000 (by omega)
        have e2 := m_lr g hp ht hd F6 F7 n 0 (by omega) 1000 (by omega)
        rw [show nI 0 = 0 from rfl] at e1 e2
        rw [e1, e2]
        by_cases z : p_lr (g_el g d) N n 0 = 0
        · refine Or.inr ⟨by rw [z], by rw [z], d, n, hd, rfl, n8, F5.trans F7, F7, F8, ?_⟩
          intro M hM
          have : nI M = nI N := hM.2.1.symm.trans ht.2.1
          have hN := ht.1
          have hM8 := hM.1
          have : M = N := (nI_eq (by omega) (by omega)).mp this
          rw [this]; exact z
        · exact Or.inl ⟨_, z, rfl, rfl⟩
      · have : ¬ nI n ≤ 8 := nI_ge (a := 8) (by omega) (by omega)
        rw [if_neg this, if_neg this]
        exact Or.inl ⟨-13, by decide, rfl, rfl⟩
    · rw [if_neg w0, if_neg w0]
      exact Or.inl ⟨_, w0, rfl, rfl⟩
  · simp only [c_shelff hc hn, m_rowF g _ hn, Option.bind_some, ab_let, Option.elim_some, Option.elim_none, k_m10, if_false]
    exact Or.inl ⟨-1, by decide, rfl, rfl⟩
theorem p_lr_0 {el : Nat → Int32} {N : Nat} : ∀ (c k : Nat), p_lr el N c k = 0 → ∀ j, k ≤ j → j < k + c → 0 ≤ (el j).toInt ∧ (el j).toInt < N
  | 0, k, _, j, h1, h2 => by omega
  | c + 1, k, h, j, h1, h2 => by
    rw [p_lr] at h
    by_cases b : 0 ≤ (el k).toInt ∧ (el k).toInt < N
    · rw [if_pos b] at h
      by_cases q : j = k
      · subst q; exact b
      · exact p_lr_0 c (k + 1) h j (by omega) (by omega)
    · rw [if_neg b] at h
      exact absurd h (by decide)
end LST
