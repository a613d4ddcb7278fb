section ROW
/-- a stretch of a row made 0 -/
def hz (r : Nat) : Nat → Nat → ab_HP → ab_HP
  | 0, _, h => h
  | c + 1, a, h => hz r c (a + 1) (ab_ip h r a 0)
theorem hz_i (r : Nat) : ∀ (c a : Nat) (h : ab_HP) (r' k : Nat), ab_i (hz r c a h) r' k = if r' = r ∧ a ≤ k ∧ k < a + c then 0 else ab_i h r' k
  | 0, a, h, r', k => by rw [hz, if_neg (by omega)]
  | c + 1, a, h, r', k => by
    rw [hz, hz_i r c (a + 1) _ r' k, hi_ip]
    by_cases q : r' = r ∧ k = a
    · rw [if_neg (by omega), if_pos q, if_pos (by omega)]
    · rw [if_neg q]
      by_cases q2 : r' = r ∧ a + 1 ≤ k ∧ k < a + 1 + c
      · rw [if_pos q2, if_pos (by omega)]
      · rw [if_neg q2, if_neg (by omega)]
theorem hz_r (r : Nat) : ∀ (c a : Nat) (h : ab_HP) (r' k : Nat), ab_r (hz r c a h) r' k = ab_r h r' k
  | 0, _, _, _, _ => rfl
  | c + 1, a, h, r', k => by rw [hz, hz_r r c (a + 1) _ r' k, hr_ip]
theorem hz_l (r : Nat) : ∀ (c a : Nat) (h : ab_HP) (r' k : Nat), ab_l (hz r c a h) r' k = ab_l h r' k
  | 0, _, _, _, _ => rfl
  | c + 1, a, h, r', k => by rw [hz, hz_l r c (a + 1) _ r' k, hl_ip]
theorem hz_1 (r : Nat) : ∀ (c a : Nat) (h : ab_HP), (hz r c a h).1 = h.1
  | 0, _, _ => rfl
  | c + 1, a, h => by rw [hz, hz_1 r c (a + 1) _, h1_ip]
theorem c_fill {d : Nat} (hd : d < 8) : ∀ (c k : Nat) (h : ab_HP), ab_r h (15 + 2 * d) 0 = some (16 + 2 * d) → k + c = 100 → ∀ f, c < f → f_X6_holdRow_l17 (15 + 2 * d) f (nI k) h = some (hz (16 + 2 * d) c k h)
  | 0, k, h, he, e, f + 1, _ => by
    have e : k = 100 := by omega
    subst e
    rw [f_X6_holdRow_l17]
    simp only [he, sh_shp hd, Option.bind_some, ab_let, Option.elim_some, Option.elim_none]
    rw [if_pos (show Int32.ofNat 100 ≤ nI 100 by decide)]
    rfl
  | c + 1, k, h, he, e, f + 1, hf => by
    have q : ab_in (nI k) 100 = true := in_nI (by omega) (by decide)
    have qc : (nI k).toNatClampNeg = k := nI_clamp (by omega)
    have h2 : ¬ Int32.ofNat 100 ≤ nI k := nI_ge (b := 100) (by omega) (by decide)
    rw [f_X6_holdRow_l17]
    simp only [he, sh_shp hd, Option.bind_some, ab_let, Option.elim_some, Option.elim_none, h2, if_false, q, if_true, qc, nI_1]
    rw [c_fill hd c (k + 1) _ (by rw [hr_ip]; exact he) (by omega) f (by omega)]
    rfl
  | _, _, _, _, _, 0, h => absurd h (Nat.not_lt_zero _)
theorem m_fill {d : Nat} (hd : d < 8) : ∀ (c k : Nat) (g : ab_HP), mp g → k + c = 100 → ∀ f, c < f → f_X12_row_l58 31 f (nI d) (nI k) g = some (0, hz 38 c (100 * d + k) g)
  | 0, k, g, hp, e, f + 1, _ => by
    have e : k = 100 := by omega
    subst e
    rw [f_X12_row_l58, if_pos (show (100 : Int32) ≤ nI 100 by decide)]
    rfl
  | c + 1, k, g, hp, e, f + 1, hf => by
    have e1 : (100 : Int32) * nI d + nI k = nI (100 * d + k) := by rw [n_lit 100, nI_mul, nI_add]
    have q : ab_in (nI (100 * d + k)) 800 = true := in_nI (by omega) (by decide)
    have qc : (nI (100 * d + k)).toNatClampNeg = 100 * d + k := nI_clamp (by omega)
    have h2 : ¬ (100 : Int32) ≤ nI k := nI_ge (b := 100) (by omega) (by decide)
    rw [f_X12_row_l58, if_neg h2]
    simp only [hp 6, mp_0, mp_1, mp_2, mp_3, mp_4, mp_5, mp_6, mp_7, mp_8, mp_16, mp_19, mp_20, mp_21, mp_22, mp_23, mp_32, mp_39, shp_2, shp_4, shp_6, shp_8, shp_9, shp_10, shp_11, shp_12, shp_13, shp_14, shp_32, shp_33, shp_34, shp_35, shp_36, shp_37, shp_38, shp_39, shp_40, shp_41, shp_42, shp_43, shp_44, shp_45, shp_46, shp_47, shp_48, shp_49, Option.bind_some, ab_let, Option.elim_some, Option.elim_none, e1, q, if_true, qc, nI_1]
    rw [m_fill hd c (k + 1) _ (mp_ip hp _ _ _) (by omega) f (by omega)]
    rfl
  | _, _, _, _, _, 0, h => absurd h (Nat.not_lt_zero _)
theorem p_row (i j n : Int32) : callp (f_X11_row 0 i j n) (f_X12_row 31 i j n) := by
  intro h g H
  have H0 := H
  obtain ⟨hc, hp, h50, ht, hi, hs⟩ := H
  unfold f_X11_row f_X12_row
  rw [is_0_2, bI_if, m_isShelf]
  simp only [Option.bind_some, ab_let, Option.elim_some, Option.elim_none, bI_0, decide_eq_false_iff_not]
  rcases i_split 8 (by decide) i with ⟨d, hd, rfl⟩ | hn
  · have q8 : ab_in (nI d) 8 = true := in_nI hd (by decide)
    have qc : (nI d).toNatClampNeg = d := nI_clamp (by omega)
    have b : (0 ≤ (nI d).toInt ∧ (nI d).toInt < 8) := by rw [nI_toInt (by omega)]; omega
    simp only [c_shelf hc hd, Option.bind_some, ab_let, Option.elim_some, Option.elim_none, b, and_self, not_true, if_false]
    rcases i_split 3 (by decide) j with ⟨w, hw, rfl⟩ | hj
    · have e : (0 : Int32) ≤ nI w ∧ nI w ≤ 2 := ⟨nI_pos' (by omega), nI_le (b := 2) (by omega) (by decide)⟩
      have e2 : ¬ (2 : Int32) < nI w := nI_nlt (a := 2) (by omega) (by decide)
      simp only [nI_lt0 (show w < 2 ^ 31 by omega), e, e2, and_self, not_true, if_false]
      by_cases n1 : n ≤ 100
      · by_cases n0 : 0 ≤ n
        · simp only [n1, n0, if_true]
          obtain ⟨m, hm, rfl⟩ : ∃ m, m < 101 ∧ n = nI m := n_in (by rw [n_le, l_int0] at n0; exact n0) (by rw [n_le, show (100 : Int32).toInt = 100 from rfl] at n1; omega)
          unfold f_X6_holdRow
          have el : ab_r (ab_ip (ab_ip (ab_rp h (15 + 2 * d) 1 none) (15 + 2 * d) 2 (nI w)) (15 + 2 * d) 3 (nI m)) (15 + 2 * d) 0 = some (16 + 2 * d) := by
            rw [hr_ip, hr_ip, hr_rp, if_neg (by omega)]
            exact sh_el hc hd
          have fl := c_fill hd 100 0 _ el (by omega) 1000 (by omega)
          rw [show nI 0 = 0 from rfl] at fl
          have ml := m_fill hd 100 0 (ab_ip (ab_ip (ab_ip g 35 d 2) 36 d (nI w)) 37 d (nI m)) (mp_ip (mp_ip (mp_ip hp _ _ _) _ _ _) _ _ _) (by omega) 1000 (by omega)
          rw [show nI 0 = 0 from rfl] at ml
          simp only [Option.bind_some, ab_let, Option.elim_some, Option.elim_none, fl, hp 3, hp 4, hp 5, mp_0, mp_1, mp_2, mp_3, mp_4, mp_5, mp_6, mp_7, mp_8, mp_16, mp_19, mp_20, mp_21, mp_22, mp_23, mp_32, mp_39, shp_2, shp_4, shp_6, shp_8, shp_9, shp_10, shp_11, shp_12, shp_13, shp_14, shp_32, shp_33, shp_34, shp_35, shp_36, shp_37, shp_38, shp_39, shp_40, shp_41, shp_42, shp_43, shp_44, shp_45, shp_46, shp_47, shp_48, shp_49, q8, qc, if_true, hr_ip, ml]
          refine ⟨_, _, _, rfl, rfl, ?_, ?_, ?_⟩
          · intro r h1 h2 k
            refine ⟨?_, ?_, ?_⟩
            · rw [hz_i, if_neg (by omega), hi_ip, hi_ip, hi_rp, if_neg (by omega), if_neg (by omega)]
            · rw [hz_r, hr_ip, hr_ip, hr_rp, if_neg (by omega)]
            · rw [hz_l]; rfl
          · refine ⟨by rw [hz_1]; rfl, fun r hr k => ⟨?_, ?_⟩⟩
            · rw [hz_i, if_neg (by omega), hi_ip, hi_ip, hi_ip, if_neg (by omega), if_neg (by omega), if_neg (by omega)]
            · rw [hz_r]; rfl
          · refine gr_shelf H0 hd (by rw [hz_1]; rfl) ?_ ?_ ?_ ?_ ?_ ?_ ?_
            · intro r b h1
              rw [hz_r, hr_ip, hr_ip, hr_rp, if_neg h1]
            · intro r b h1 h2
              rw [hz_i, if_neg (by omega), hi_ip, hi_ip, hi_rp, if_neg (by omega), if_neg (by omega)]
            · intro r b
              rw [hz_r]; rfl
            · intro r b h1 h2
              rw [hz_i, if_neg (by omega), hi_ip, hi_ip, hi_ip, if_neg (by omega), if_neg (by omega), if_neg (by omega)]
            · intro r b h1 h2 h3 h4
              rw [hz_i, if_neg (by omega), hi_ip, hi_ip, hi_ip, if_neg (by omega), if_neg (by omega), if_neg (by omega)]
            · intro b hb
              rw [hz_i, if_neg (by omega), hi_ip, hi_ip, hi_ip, if_neg (by omega), if_neg (by omega), if_neg (by omega)]
            · refine Or.inr (Or.inr ⟨?_, ?_, ?_, ⟨w, hw, ?_⟩, ?_, m, by omega, ?_, ?_⟩)
              · rw [hz_i, if_neg (by omega), hi_ip, hi_ip, hi_ip, if_neg (by omega), if_neg (by omega), if_pos ⟨rfl, rfl⟩]
              · rw [hz_r, hr_ip, hr_ip, hr_rp, if_pos ⟨rfl, rfl⟩]
              · rw [hz_i, if_neg (by omega), hi_ip, if_neg (by omega), hi_ip, if_pos ⟨rfl, rfl⟩, hz_i, if_neg (by omega), hi_ip, if_neg (by omega), hi_ip, if_pos ⟨rfl, rfl⟩]
              · rw [hz_i, if_neg (by omega), hi_ip, if_neg (by omega), hi_ip, if_pos ⟨rfl, rfl⟩]
              · rw [hz_i, if_neg (by omega), hi_ip, if_pos ⟨rfl, rfl⟩, hz_i, if_neg (by omega), hi_ip, if_pos ⟨rfl, rfl⟩]
              · rw [hz_i, if_neg (by omega), hi_ip, if_pos ⟨rfl, rfl⟩]
              · intro b hb
                rw [hz_i, if_pos (by omega), hz_i, if_pos (by omega)]
        · simp only [n1, n0, if_true, if_false]
          exact ⟨_, _, _, rfl, rfl, meq_refl h, ceq_refl g, H0⟩
      · simp only [n1, if_false]
        exact ⟨_, _, _, rfl, rfl, meq_refl h, ceq_refl g, H0⟩
    · have e : ¬ ((0 : Int32) ≤ j ∧ j ≤ 2) := by
        rw [is_in, l_int0, show (2 : Int32).toInt = 2 from rfl]; omega
      simp only [e, not_false_eq_true, if_true]
      refine ⟨-1, h, g, ?_, rfl, meq_refl h, ceq_refl g, H0⟩
      by_cases q : j < 0
      · simp only [q, if_true]
      · have q2 : 2 < j := by
          rw [n_lt, l_int0] at q
          rw [n_lt, show (2 : Int32).toInt = 2 from rfl]; omega
        simp only [q, q2, if_false, if_true]
  · have b : ¬ (0 ≤ i.toInt ∧ i.toInt < 8) := by omega
    simp only [c_shelff hc hn, Option.bind_some, ab_let, Option.elim_some, Option.elim_none, b, not_false_eq_true, if_true]
    exact ⟨_, _, _, rfl, rfl, meq_refl h, ceq_refl g, H0⟩
end ROW
