section ACD
theorem one0 : ((1 : Int32) = 0) = False := eq_false (by decide)
theorem i_ne {d : Nat} {i : Int32} (hn : i.toInt < 0 ∨ (d : Int) < i.toInt) (hd : d < 2 ^ 31) : ¬ i = nI d := by
  rintro rfl
  rw [nI_toInt hd] at hn
  omega
theorem t_kept01 (s : Nat → Int32) (d : Nat) : t_kept s d = 0 ∨ t_kept s d = 1 := by
  unfold t_kept dc_kept
  repeat' split
  all_goals first | exact Or.inl rfl | exact Or.inr rfl
theorem q_deed (i j : Int32) : callq (f_X11_deed 0 i j) (f_X12_deed 31 i j) := by
  rintro h g ⟨hc, hp, h50, ⟨N, ht, hd⟩, hi, hs⟩
  unfold f_X11_deed f_X12_deed
  simp only [hc 0 0 1 rfl, hc 0 1 3 rfl, hc 0 2 5 rfl, hc 0 3 7 rfl, hc 0 4 11 rfl, hc 0 5 12 rfl, hc 0 6 13 rfl, hc 0 7 14 rfl, hc 1 0 2 rfl, hc 3 0 4 rfl, hc 5 0 6 rfl, hc 7 0 8 rfl, hc 7 1 9 rfl, hc 7 2 10 rfl, Option.bind_some, ab_let, Option.elim_some, Option.elim_none]
  rcases i_split N (by have := ht.1; omega) i with ⟨d, hdN, rfl⟩ | hn
  · obtain ⟨r, e1, e2, e3⟩ := gr_deed hc ht hd hdN
    have hd8 : d < 8 := by have := ht.1; omega
    rw [is_0_4, bI_if]
    simp only [e1, Option.bind_some, ab_let, Option.elim_some, Option.elim_none, m_isDeed_t g hp ht.1 ht.2.1 hdN, one0, if_false, m_cost g hp hd8, m_back g hp hd8, m_kept g hp hd8, e3.2.1.2.1, e3.2.1.2.2.1, e3.2.1.2.2.2.1, e3.2.1.2.2.2.2.1, e3.2.1.2.2.2.2.2, e3.2.2.1, e3.2.2.2.1, e3.2.2.2.2.2.2.1]
    rcases i_split 8 (by decide) j with ⟨k, hk, rfl⟩ | hj
    · have q : (0 ≤ nI k ∧ nI k ≤ 4) ↔ k < 5 := by
        rw [n_le, n_le, nI_toInt (by omega), l_int0, show (4 : Int32).toInt = 4 from rfl]
        omega
      simp only [q]
      rcases (by omega : k = 0 ∨ k = 1 ∨ k = 2 ∨ k = 3 ∨ k = 4 ∨ k = 5 ∨ k = 6 ∨ k = 7) with rfl | rfl | rfl | rfl | rfl | rfl | rfl | rfl
      · rw [if_pos (show nI 0 = 0 from rfl), m_get g hp hd8 (by decide)]; exact ⟨_, rfl, rfl⟩
      · rw [if_neg (by decide), if_pos (show nI 1 = 1 from rfl), m_get g hp hd8 (by decide)]; exact ⟨_, rfl, rfl⟩
      · rw [if_neg (by decide), if_neg (by decide), if_pos (show nI 2 = 2 from rfl), m_get g hp hd8 (by decide)]; exact ⟨_, rfl, rfl⟩
      · rw [if_neg (by decide), if_neg (by decide), if_neg (by decide), if_pos (show nI 3 = 3 from rfl), m_get g hp hd8 (by decide)]; exact ⟨_, rfl, rfl⟩
      · rw [if_neg (by decide), if_neg (by decide), if_neg (by decide), if_neg (by decide), if_pos (show nI 4 = 4 from rfl), m_get g hp hd8 (by decide)]; exact ⟨_, rfl, rfl⟩
      · exact ⟨_, rfl, rfl⟩
      · exact ⟨_, rfl, rfl⟩
      · rcases t_kept01 (ab_i g 32) d with e | e <;> rw [e] <;> exact ⟨_, rfl, rfl⟩
    · have q : ¬ (0 ≤ j ∧ j ≤ 4) := by
        rw [n_le, n_le, l_int0, show (4 : Int32).toInt = 4 from rfl]
        omega
      have ne : ∀ k : Nat, k < 8 → ¬ j = nI k := fun k hk => i_ne (by omega) (by omega)
      simp only [decide_eq_false q, bI_f, if_true]
      rw [if_neg (show ¬ j = 0 from ne 0 (by decide)), if_neg (show ¬ j = 1 from ne 1 (by decide)), if_neg (show ¬ j = 2 from ne 2 (by decide)), if_neg (show ¬ j = 3 from ne 3 (by decide)), if_neg (show ¬ j = 4 from ne 4 (by decide)), if_neg (show ¬ j = 5 from ne 5 (by decide)), if_neg (show ¬ j = 6 from ne 6 (by decide)), if_neg (show ¬ j = 7 from ne 7 (by decide))]
      exact ⟨_, rfl, rfl⟩
  · simp only [gr_deedf ht hd hn, Option.bind_some, ab_let, Option.elim_some, Option.elim_none, m_isDeed_f g hp ht.1 ht.2.1 hn, if_true]
    exact ⟨_, rfl, rfl⟩
theorem c_may1 {h : ab_HP} {r : Nat} {s : Nat → Int32} {d : Nat} (hd : dk h r s d) (m c : Int32) : f_X1_mayBeDone r m c h = some (bI (t_mayb s d m c)) := by
  have := c_may hd (z_of h) m c
  rwa [z_put_of] at this
theorem c_ground1 {h : ab_HP} {r : Nat} {s : Nat → Int32} {d : Nat} (hd : dk h r s d) (m : Int32) : f_X1_hasGround r m h = some (bI (decide (t_lack s d m = 0))) := by
  have := c_ground hd (z_of h) m
  rwa [z_put_of] at this
theorem q_may (i : Int32) : callq (f_X11_may 0 i) (f_X12_may 31 i) := by
  rintro h g ⟨hc, hp, h50, ⟨N, ht, hd⟩, hi, hs⟩
  unfold f_X11_may f_X12_may
  simp only [hc 0 0 1 rfl, hc 0 1 3 rfl, hc 0 2 5 rfl, hc 0 3 7 rfl, hc 0 4 11 rfl, hc 0 5 12 rfl, hc 0 6 13 rfl, hc 0 7 14 rfl, hc 1 0 2 rfl, hc 3 0 4 rfl, hc 5 0 6 rfl, hc 7 0 8 rfl, hc 7 1 9 rfl, hc 7 2 10 rfl, Option.bind_some, ab_let, Option.elim_some, Option.elim_none, hp 0, mp_0, mp_1, mp_2, mp_3, mp_4, mp_5, mp_6, mp_7, mp_8, mp_16, mp_19, mp_20, mp_21, mp_22, mp_23, mp_32, mp_39, shp_2, shp_4, shp_6, shp_8, shp_9, shp_10, shp_11, shp_12, shp_13, shp_14, shp_32, shp_33, shp_34, shp_35, shp_36, shp_37, shp_38, shp_39, shp_40, shp_41, shp_42, shp_43, shp_44, shp_45, shp_46, shp_47, shp_48, shp_49, in_l0, in_l1, in_l2, in_l3, in_l4, in_l5, in_l6, lit_c0, lit_c1, lit_c2, lit_c3, lit_c4, lit_c5, lit_c6, Nat.reduceLT, decide_true, if_true]
  rcases i_split N (by have := ht.1; omega) i with ⟨d, hdN, rfl⟩ | hn
  · obtain ⟨r, e1, e2, e3⟩ := gr_deed hc ht hd hdN
    have hd8 : d < 8 := by have := ht.1; omega
    simp only [e1, Option.bind_some, ab_let, Option.elim_some, Option.elim_none, m_isDeed_t g hp ht.1 ht.2.1 hdN, one0, if_false, c_may1 e3, m_may g hp hd8, hd.1.2.1, hd.1.2.2.1]
    cases t_mayb (ab_i g 32) d (ab_i g 32 0) (ab_i g 32 1)
    · exact ⟨_, rfl, rfl⟩
    · exact ⟨_, rfl, rfl⟩
  · simp only [gr_deedf ht hd hn, Option.bind_some, ab_let, Option.elim_some, Option.elim_none, m_isDeed_f g hp ht.1 ht.2.1 hn, if_true]
    exact ⟨_, rfl, rfl⟩
def p_month (s : Nat → Int32) : Nat → Nat → Nat → Nat
  | 0, b, _ => b
  | c + 1, b, i => if t_price s b ≤ t_price s i then p_month s c b (i + 1) else p_month s c i (i + 1)
theorem c_month {h : ab_HP} (hc : cp h) {N : Nat} {s : Nat → Int32} (hd : td h 1 N s) : ∀ (c b i : Nat), i + c = 8 → b < 8 → ∀ f, c < f → f_X11_month_l4 0 f (nI b) (nI i) h = some (nI (p_month s c b i))
  | 0, b, i, e, hb, f + 1, _ => by
    have e : i = 8 := by omega
    subst e
    rw [f_X11_month_l4, if_pos (show (8 : Int32) ≤ nI 8 by decide)]
    rfl
  | c + 1, b, i, e, hb, f + 1, hf => by
    have q : ¬ (8 : Int32) ≤ nI i := nI_ge (b := 8) (by omega) (by decide)
    rw [f_X11_month_l4, if_neg q]
    simp only [hc 0 0 1 rfl, hc 0 1 3 rfl, hc 0 2 5 rfl, hc 0 3 7 rfl, hc 0 4 11 rfl, hc 0 5 12 rfl, hc 0 6 13 rfl, hc 0 7 14 rfl, hc 1 0 2 rfl, hc 3 0 4 rfl, hc 5 0 6 rfl, hc 7 0 8 rfl, hc 7 1 9 rfl, hc 7 2 10 rfl, Option.bind_some, ab_let, Option.elim_some, Option.elim_none, c_price1 hd, nI_1, p_month, c_month hc hd c b (i + 1) (by omega) hb f (by omega), c_month hc hd c i (i + 1) (by omega) (by omega) f (by omega)]
    split <;> rfl
  | _, _, _, _, _, 0, h => absurd h (Nat.not_lt_zero _)
theorem m_month (g : ab_HP) (hp : mp g) : ∀ (c b i : Nat), i + c = 8 → b < 8 → ∀ f, c < f → f_X12_month_l4 31 f (nI b) (nI i) g = some (nI (p_month (ab_i g 32) c b i))
  | 0, b, i, e, hb, f + 1, _ => by
    have e : i = 8 := by omega
    subst e
    rw [f_X12_month_l4, if_pos (show (8 : Int32) ≤ nI 8 by decide)]
    rfl
  | c + 1, b, i, e, hb, f + 1, hf => by
    have q : ¬ (8 : Int32) ≤ nI i := nI_ge (b := 8) (by omega) (by decide)
    rw [f_X12_month_l4, if_neg q]
    simp only [Option.bind_some, ab_let, Option.elim_some, Option.elim_none, m_price g hp, nI_1, p_month, m_month g hp c b (i + 1) (by omega) hb f (by omega), m_month g hp c i (i + 1) (by omega) (by omega) f (by omega)]
    split <;> rfl
  | _, _, _, _, _, 0, h => absurd h (Nat.not_lt_zero _)
theorem q_month : callq (f_X11_month 0) (f_X12_month 31) := by
  rintro h g ⟨hc, hp, h50, ⟨N, ht, hd⟩, hi, hs⟩
  exact ⟨_, c_month hc hd 7 0 1 rfl (by decide) 1000 (by decide), m_month g hp 7 0 1 rfl (by decide) 1000 (by decide)⟩
end ACD
