section HLP
def p_help (s : Nat → Int32) : Nat → Nat → Int32 → Int32
  | 0, _, a => a
  | c + 1, d, a => p_help s c (d + 1) (if t_g s d 0 = 6 ∧ t_mayb s d (s 0) (s 1) = true then a ||| (s 0 &&& dc_bit (t_g s d 2)) else a)
theorem i_or0 (a b : Int32) : a ||| (b &&& 0) = a := by rw [Int32.and_zero, Int32.or_zero]
theorem c_help {h g : ab_HP} (hc : cp h) {N : Nat} (ht : tw N (ab_i g 32)) (hd : td h 1 N (ab_i g 32)) : ∀ (c d : Nat) (a : Int32), d + c = N → ∀ f, c < f → f_X11_help_l4 0 f a (nI d) h = some (p_help (ab_i g 32) c d a)
  | 0, d, a, e, f + 1, _ => by
    have e : d = N := by omega
    subst e
    rw [f_X11_help_l4]
    simp only [hc 0 0 1 rfl, hc 0 1 3 rfl, hc 0 2 5 rfl, hc 0 3 7 rfl, hc 0 4 11 rfl, hc 0 5 12 rfl, hc 0 6 13 rfl, hc 0 7 14 rfl, hc 1 0 2 rfl, hc 3 0 4 rfl, hc 5 0 6 rfl, hc 7 0 8 rfl, hc 7 1 9 rfl, hc 7 2 10 rfl, Option.bind_some, ab_let, Option.elim_some, Option.elim_none, hd.1.1, ht.2.1]
    rw [if_pos (nI_le (Nat.le_refl _) (by have := ht.1; omega))]
    rfl
  | c + 1, d, a, e, f + 1, hf => by
    have hN := ht.1
    obtain ⟨r, e1, e2, e3⟩ := gr_deed hc ht hd (show d < N by omega)
    have q : ¬ nI N ≤ nI d := nI_ge (by omega) (by omega)
    have ih := fun a => c_help hc ht hd c (d + 1) a (by omega) f (by omega)
    rw [f_X11_help_l4]
    simp only [hc 0 0 1 rfl, hc 0 1 3 rfl, hc 0 2 5 rfl, hc 0 3 7 rfl, hc 0 4 11 rfl, hc 0 5 12 rfl, hc 0 6 13 rfl, hc 0 7 14 rfl, hc 1 0 2 rfl, hc 3 0 4 rfl, hc 5 0 6 rfl, hc 7 0 8 rfl, hc 7 1 9 rfl, hc 7 2 10 rfl, Option.bind_some, ab_let, Option.elim_some, Option.elim_none, hd.1.1, ht.2.1, q, if_false, e1, c_may1 e3, hd.1.2.1, hd.1.2.2.1, bI_0, e3.2.2.2.2.2.1, nI_1, ih, p_help, dc_clears]
    cases t_mayb (ab_i g 32) d (ab_i g 32 0) (ab_i g 32 1)
    · simp only [if_true, Bool.false_eq_true, and_false, if_false]
    · by_cases k6 : t_g (ab_i g 32) d 0 = 6
      · simp only [Bool.true_eq_false, if_false, k6, if_true, and_self]
      · simp only [Bool.true_eq_false, if_false, k6, and_true, i_or0]
  | _, _, _, _, 0, h => absurd h (Nat.not_lt_zero _)
theorem m_help (g : ab_HP) (hp : mp g) {N : Nat} (ht : tw N (ab_i g 32)) : ∀ (c d : Nat) (a : Int32), d + c = N → ∀ f, c < f → f_X12_help_l4 31 f a (nI d) g = some (p_help (ab_i g 32) c d a)
  | 0, d, a, e, f + 1, _ => by
    have e : d = N := by omega
    subst e
    rw [f_X12_help_l4]
    simp only [hp 0, mp_0, mp_1, mp_2, mp_3, mp_4, mp_5, mp_6, mp_7, mp_8, mp_16, mp_19, mp_20, mp_21, mp_22, mp_23, mp_32, mp_39, shp_2, shp_4, shp_6, shp_8, shp_9, shp_10, shp_11, shp_12, shp_13, shp_14, shp_32, shp_33, shp_34, shp_35, shp_36, shp_37, shp_38, shp_39, shp_40, shp_41, shp_42, shp_43, shp_44, shp_45, shp_46, shp_47, shp_48, shp_49, Option.bind_some, ab_let, Option.elim_some, Option.elim_none, in_l0, in_l1, in_l2, in_l3, in_l4, in_l5, in_l6, lit_c0, lit_c1, lit_c2, lit_c3, lit_c4, lit_c5, lit_c6, Nat.reduceLT, decide_true, if_true, ht.2.1]
    rw [if_pos (nI_le (Nat.le_refl _) (by have := ht.1; omega))]
    rfl
  | c + 1, d, a, e, f + 1, hf => by
    have hN := ht.1
    have q : ¬ nI N ≤ nI d := nI_ge (by omega) (by omega)
    have ih := fun a => m_help g hp ht c (d + 1) a (by omega) f (by omega)
    rw [f_X12_help_l4]
    simp only [hp 0, mp_0, mp_1, mp_2, mp_3, mp_4, mp_5, mp_6, mp_7, mp_8, mp_16, mp_19, mp_20, mp_21, mp_22, mp_23, mp_32, mp_39, shp_2, shp_4, shp_6, shp_8, shp_9, shp_10, shp_11, shp_12, shp_13, shp_14, shp_32, shp_33, shp_34, shp_35, shp_36, shp_37, shp_38, shp_39, shp_40, shp_41, shp_42, shp_43, shp_44, shp_45, shp_46, shp_47, shp_48, shp_49, Option.bind_some, ab_let, Option.elim_some, Option.elim_none, in_l0, in_l1, in_l2, in_l3, in_l4, in_l5, in_l6, lit_c0, lit_c1, lit_c2, lit_c3, lit_c4, lit_c5, lit_c6, Nat.reduceLT, decide_true, if_true, ht.2.1, q, if_false, m_get0 g hp (show d < 8 by omega), m_get2 g hp (show d < 8 by omega), m_may g hp (show d < 8 by omega), bI_0, nI_1, ih, p_help]
    by_cases k6 : t_g (ab_i g 32) d 0 = 6
    · simp only [k6, if_true, true_and]
      cases t_mayb (ab_i g 32) d (ab_i g 32 0) (ab_i g 32 1)
      · simp only [if_true, Bool.false_eq_true, if_false]
      · simp only [Bool.true_eq_false, if_false, if_true, dc_bit]
    · simp only [k6, if_false, false_and]
  | _, _, _, _, 0, h => absurd h (Nat.not_lt_zero _)
theorem q_help : callq (f_X11_help 0) (f_X12_help 31) := by
  rintro h g ⟨hc, hp, h50, ⟨N, ht, hd⟩, hi, hs⟩
  have hN := ht.1
  exact ⟨_, c_help hc ht hd N 0 0 (by omega) 1000 (by omega), m_help g hp ht N 0 0 (by omega) 1000 (by omega)⟩
/-! count -/
def p_cnt1 (s : Nat → Int32) (w : Int32) (d : Nat) : Int32 := if w = 2 then bI (t_mayb s d (s 0) (s 1)) else if w = 3 then t_kept s d else if w = 4 then (if t_g s d 0 = 6 then 1 else 0) else t_g s d 3
def p_count (s : Nat → Int32) (w : Int32) : Nat → Nat → Int32 → Int32
  | 0, _, a => a
  | c + 1, d, a => p_count s w c (d + 1) (a + p_cnt1 s w d)
theorem c_count {h g : ab_HP} (hc : cp h) {N : Nat} (ht : tw N (ab_i g 32)) (hd : td h 1 N (ab_i g 32)) (w : Int32) : ∀ (c d : Nat) (a : Int32), d + c = N → ∀ f, c < f → f_X11_count_l43 0 f w a (nI d) h = some (p_count (ab_i g 32) w c d a)
  | 0, d, a, e, f + 1, _ => by
    have e : d = N := by omega
    subst e
    rw [f_X11_count_l43]
    simp only [hc 0 0 1 rfl, hc 0 1 3 rfl, hc 0 2 5 rfl, hc 0 3 7 rfl, hc 0 4 11 rfl, hc 0 5 12 rfl, hc 0 6 13 rfl, hc 0 7 14 rfl, hc 1 0 2 rfl, hc 3 0 4 rfl, hc 5 0 6 rfl, hc 7 0 8 rfl, hc 7 1 9 rfl, hc 7 2 10 rfl, Option.bind_some, ab_let, Option.elim_some, Option.elim_none, hd.1.1, ht.2.1]
    rw [if_pos (nI_le (Nat.le_refl _) (by have := ht.1; omega))]
    rfl
  | c + 1, d, a, e, f + 1, hf => by
    have hN := ht.1
    obtain ⟨r, e1, e2, e3⟩ := gr_deed hc ht hd (show d < N by omega)
    have q : ¬ nI N ≤ nI d := nI_ge (by omega) (by omega)
    have ih := fun a => c_count hc ht hd w c (d + 1) a (by omega) f (by omega)
    have hk := t_kept01 (ab_i g 32) d
    have cc : f_X11_counted 0 (some r) w h = some (p_cnt1 (ab_i g 32) w d) := by
      unfold f_X11_counted p_cnt1
      simp only [hc 0 0 1 rfl, hc 0 1 3 rfl, hc 0 2 5 rfl, hc 0 3 7 rfl, hc 0 4 11 rfl, hc 0 5 12 rfl, hc 0 6 13 rfl, hc 0 7 14 rfl, hc 1 0 2 rfl, hc 3 0 4 rfl, hc 5 0 6 rfl, hc 7 0 8 rfl, hc 7 1 9 rfl, hc 7 2 10 rfl, Option.bind_some, ab_let, Option.elim_some, Option.elim_none, c_may1 e3, hd.1.2.1, hd.1.2.2.1, e3.2.1.2.2.2.1, e3.2.1.2.2.2.2.2, e3.2.2.2.2.2.2.1]
      split
      · cases t_mayb (ab_i g 32) d (ab_i g 32 0) (ab_i g 32 1) <;> rfl
      · split
        · rcases hk with e | e <;> rw [e] <;> rfl
        · split
          · split <;> rfl
          · rfl
    rw [f_X11_count_l43]
    simp only [hc 0 0 1 rfl, hc 0 1 3 rfl, hc 0 2 5 rfl, hc 0 3 7 rfl, hc 0 4 11 rfl, hc 0 5 12 rfl, hc 0 6 13 rfl, hc 0 7 14 rfl, hc 1 0 2 rfl, hc 3 0 4 rfl, hc 5 0 6 rfl, hc 7 0 8 rfl, hc 7 1 9 rfl, hc 7 2 10 rfl, Option.bind_some, ab_let, Option.elim_some, Option.elim_none, hd.1.1, ht.2.1, q, if_false, e1, cc, nI_1, ih, p_count]
  | _, _, _, _, 0, h => absurd h (Nat.not_lt_zero _)
theorem ek_2_2 : (nI 2 = 2) = True := eq_true rfl
theorem ek_2_3 : (nI 2 = 3) = False := eq_false (by decide)
theorem ek_2_4 : (nI 2 = 4) = False := eq_false (by decide)
theorem ek_2_5 : (nI 2 = 5) = False := eq_false (by decide)
theorem ek_3_2 : (nI 3 = 2) = False := eq_false (by decide)
theorem ek_3_3 : (nI 3 = 3) = True := eq_true rfl
theorem ek_3_4 : (nI 3 = 4) = False := eq_false (by decide)
theorem ek_3_5 : (nI 3 = 5) = False := eq_false (by decide)
theorem ek_4_2 : (nI 4 = 2) = False := eq_false (by decide)
theorem ek_4_3 : (nI 4 = 3) = False := eq_false (by decide)
theorem ek_4_4 : (nI 4 = 4) = True := eq_true rfl
theorem ek_4_5 : (nI 4 = 5) = False := eq_false (by decide)
theorem ek_5_2 : (nI 5 = 2) = False := eq_false (by decide)
theorem ek_5_3 : (nI 5 = 3) = False := eq_false (by decide)
theorem ek_5_4 : (nI 5 = 4) = False := eq_false (by decide)
theorem ek_5_5 : (nI 5 = 5) = True := eq_true rfl
theorem m_count (g : ab_HP) (hp : mp g) {N : Nat} (ht : tw N (ab_i g 32)) {w : Nat} (hw : 2 ≤ w ∧ w ≤ 5) : ∀ (c d : Nat) (a : Int32), d + c = N → ∀ f, c < f → f_X12_count_l47 31 f (nI w) a (nI d) g = some (p_count (ab_i g 32) (nI w) c d a)
  | 0, d, a, e, f + 1, _ => by
    have e : d = N := by omega
    subst e
    rw [f_X12_count_l47]
    simp only [hp 0, mp_0, mp_1, mp_2, mp_3, mp_4, mp_5, mp_6, mp_7, mp_8, mp_16, mp_19, mp_20, mp_21, mp_22, mp_23, mp_32, mp_39, shp_2, shp_4, shp_6, shp_8, shp_9, shp_10, shp_11, shp_12, shp_13, shp_14, shp_32, shp_33, shp_34, shp_35, shp_36, shp_37, shp_38, shp_39, shp_40, shp_41, shp_42, shp_43, shp_44, shp_45, shp_46, shp_47, shp_48, shp_49, Option.bind_some, ab_let, Option.elim_some, Option.elim_none, in_l0, in_l1, in_l2, in_l3, in_l4, in_l5, in_l6, lit_c0, lit_c1, lit_c2, lit_c3, lit_c4, lit_c5, lit_c6, Nat.reduceLT, decide_true, if_true, ht.2.1]
    rw [if_pos (nI_le (Nat.le_refl _) (by have := ht.1; omega))]
    rfl
  | c + 1, d, a, e, f + 1, hf => by
    have hN := ht.1
    have q : ¬ nI N ≤ nI d := nI_ge (by omega) (by omega)
    have ih := fun a => m_count g hp ht hw c (d + 1) a (by omega) f (by omega)
    have hk := t_kept01 (ab_i g 32) d
    rw [f_X12_count_l47]
    simp only [hp 0, mp_0, mp_1, mp_2, mp_3, mp_4, mp_5, mp_6, mp_7, mp_8, mp_16, mp_19, mp_20, mp_21, mp_22, mp_23, mp_32, mp_39, shp_2, shp_4, shp_6, shp_8, shp_9, shp_10, shp_11, shp_12, shp_13, shp_14, shp_32, shp_33, shp_34, shp_35, shp_36, shp_37, shp_38, shp_39, shp_40, shp_41, shp_42, shp_43, shp_44, shp_45, shp_46, shp_47, shp_48, shp_49, Option.bind_some, ab_let, Option.elim_some, Option.elim_none, in_l0, in_l1, in_l2, in_l3, in_l4, in_l5, in_l6, lit_c0, lit_c1, lit_c2, lit_c3, lit_c4, lit_c5, lit_c6, Nat.reduceLT, decide_true, if_true, ht.2.1, q, if_false, m_get0 g hp (show d < 8 by omega), m_get3 g hp (show d < 8 by omega), m_may g hp (show d < 8 by omega), m_kept g hp (show d < 8 by omega), bI_0, nI_1, ih, p_count, p_cnt1]
    rcases (by omega : w = 2 ∨ w = 3 ∨ w = 4 ∨ w = 5) with rfl | rfl | rfl | rfl
    · simp only [ek_2_2, ek_2_3, ek_2_4, ek_2_5, ek_3_2, ek_3_3, ek_3_4, ek_3_5, ek_4_2, ek_4_3, ek_4_4, ek_4_5, ek_5_2, ek_5_3, ek_5_4, ek_5_5, if_true, if_false]
      cases t_mayb (ab_i g 32) d (ab_i g 32 0) (ab_i g 32 1)
      · rfl
      · rfl
    · simp only [ek_2_2, ek_2_3, ek_2_4, ek_2_5, ek_3_2, ek_3_3, ek_3_4, ek_3_5, ek_4_2, ek_4_3, ek_4_4, ek_4_5, ek_5_2, ek_5_3, ek_5_4, ek_5_5, if_true, if_false]
      rcases hk with e | e <;> rw [e] <;> rfl
    · simp only [ek_2_2, ek_2_3, ek_2_4, ek_2_5, ek_3_2, ek_3_3, ek_3_4, ek_3_5, ek_4_2, ek_4_3, ek_4_4, ek_4_5, ek_5_2, ek_5_3, ek_5_4, ek_5_5, if_true, if_false]
      by_cases k6 : t_g (ab_i g 32) d 0 = 6
      · simp only [k6, if_true]
      · simp only [k6, if_false]
    · simp only [ek_2_2, ek_2_3, ek_2_4, ek_2_5, ek_3_2, ek_3_3, ek_3_4, ek_3_5, ek_4_2, ek_4_3, ek_4_4, ek_4_5, ek_5_2, ek_5_3, ek_5_4, ek_5_5, if_true, if_false]
  | _, _, _, _, 0, h => absurd h (Nat.not_lt_zero _)
theorem tw_bits {N : Nat} {s : Nat → Int32} (ht : tw N s) : ∀ j, 10 ≤ j → bt (s 0) j = false := by
  obtain ⟨a, ha, e⟩ := ht.2.2.1
  intro j hj
  rw [e]
  by_cases q : j < 32
  · unfold bt nI
    show (BitVec.ofNat 32 a).getLsbD j = false
    rw [BitVec.getLsbD_ofNat, Nat.testBit_lt_two_pow (Nat.lt_of_lt_of_le ha (Nat.pow_le_pow_right (n := 2) (i := 10) (by decide) hj)), Bool.and_false]
  · exact b_big (by omega)
theorem q_count (i : Int32) : callq (f_X11_count 0 i) (f_X12_count 31 i) := by
  rintro h g ⟨hc, hp, h50, ⟨N, ht, hd⟩, hi, hs⟩
  have hN := ht.1
  have hb : ∀ j, 16 ≤ j → j < 32 → bt (ab_i g 32 0) j = false := fun j h1 _ => tw_bits ht j (by omega)
  unfold f_X11_count f_X12_count
  rw [is_2_5, bI_if]
  simp only [hc 0 0 1 rfl, hc 0 1 3 rfl, hc 0 2 5 rfl, hc 0 3 7 rfl, hc 0 4 11 rfl, hc 0 5 12 rfl, hc 0 6 13 rfl, hc 0 7 14 rfl, hc 1 0 2 rfl, hc 3 0 4 rfl, hc 5 0 6 rfl, hc 7 0 8 rfl, hc 7 1 9 rfl, hc 7 2 10 rfl, hp 0, mp_0, mp_1, mp_2, mp_3, mp_4, mp_5, mp_6, mp_7, mp_8, mp_16, mp_19, mp_20, mp_21, mp_22, mp_23, mp_32, mp_39, shp_2, shp_4, shp_6, shp_8, shp_9, shp_10, shp_11, shp_12, shp_13, shp_14, shp_32, shp_33, shp_34, shp_35, shp_36, shp_37, shp_38, shp_39, shp_40, shp_41, shp_42, shp_43, shp_44, shp_45, shp_46, shp_47, shp_48, shp_49, Option.bind_some, ab_let, Option.elim_some, Option.elim_none, in_l0, in_l1, in_l2, in_l3, in_l4, in_l5, in_l6, lit_c0, lit_c1, lit_c2, lit_c3, lit_c4, lit_c5, lit_c6, Nat.reduceLT, decide_true, if_true, hd.1.1, hd.1.2.1, bits_bt hb, bc_bt hb]
  rcases i_split 6 (by decide) i with ⟨w, hw, rfl⟩ | hn
  · by_cases w0 : w = 0
    · subst w0
      exact ⟨_, rfl, rfl⟩
    by_cases w1 : w = 1
    · subst w1
      exact ⟨_, rfl, rfl⟩
    · have n0 : ¬ nI w = 0 := nI_ne0 (by omega) (by omega)
      have n1 : ¬ nI w = 1 := i_ne (d := 1) (by rw [nI_toInt (by omega)]; omega) (by decide)
      have n2 : (2 ≤ nI w ∧ nI w ≤ 5) := ⟨nI_le (a := 2) (by omega) (by omega), nI_le (b := 5) (by omega) (by decide)⟩
      simp only [n0, n1, if_false, nI_lt0 (show w < 2 ^ 31 by omega), n2, n2.2, and_self, decide_true, if_true, bI_t, one0]
      exact ⟨_, c_count hc ht hd (nI w) N 0 0 (by omega) 1000 (by omega), m_count g hp ht ⟨by omega, by omega⟩ N 0 0 (by omega) 1000 (by omega)⟩
  · have ne0 : ¬ i = 0 := i_ne (d := 0) (by omega) (by decide)
    have ne1 : ¬ i = 1 := i_ne (d := 1) (by omega) (by decide)
    have e : ¬ (2 ≤ i ∧ i ≤ 5) := by
      rw [n_le, n_le, show (2 : Int32).toInt = 2 from rfl, show (5 : Int32).toInt = 5 from rfl]
      omega
    simp only [ne0, ne1, if_false, decide_eq_false e, bI_f, if_true]
    by_cases q : i < 0
    · rw [if_pos q]; exact ⟨_, rfl, rfl⟩
    · rw [if_neg q, if_neg]
      · exact ⟨_, rfl, rfl⟩
      · rw [n_lt, l_int0] at q
        rw [n_le, show (5 : Int32).toInt = 5 from rfl]
        omega
end HLP
