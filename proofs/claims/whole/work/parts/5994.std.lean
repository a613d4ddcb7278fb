section STD
def y_std (F : Nat → Int32) (k : Nat) : Bool := zf F k 2 || zf F k 3 || zf F k 4
theorem m_std (g : ab_HP) (hp : mp g) {n : Nat} (hn : n ≤ 16) (h24 : ab_i g 31 24 = nI n) : ∀ (c k : Nat), k + c = n → ∀ f, c < f → f_X12_standing_l4 31 f (nI (fb_ct (y_std (ab_i g 45)) k)) (nI k) g = some (nI (fb_ct (y_std (ab_i g 45)) n))
  | 0, k, e, f + 1, _ => by
    have e : k = n := by omega
    subst e
    rw [f_X12_standing_l4]
    simp only [h24]
    rw [if_pos (nI_le (Nat.le_refl _) (by omega))]
  | c + 1, k, e, f + 1, hf => by
    have q : ¬ nI n ≤ nI k := nI_ge (by omega) (by omega)
    have b2 : ab_in (nI k) 16 = true := in_nI (by omega) (by decide)
    have c2 : (nI k).toNatClampNeg = k := nI_clamp (by omega)
    have ih := m_std g hp hn h24 c (k + 1) (by omega) f (by omega)
    rw [fb_ct_succ] at ih
    rw [f_X12_standing_l4]
    simp only [h24, q, if_false, hp 22, mp_0, mp_1, mp_2, mp_3, mp_4, mp_5, mp_6, mp_7, mp_8, mp_16, mp_19, mp_20, mp_21, mp_22, mp_23, mp_32, mp_39, shp_2, shp_4, shp_6, shp_8, shp_9, shp_10, shp_11, shp_12, shp_13, shp_14, shp_32, shp_33, shp_34, shp_35, shp_36, shp_37, shp_38, shp_39, shp_40, shp_41, shp_42, shp_43, shp_44, shp_45, shp_46, shp_47, shp_48, shp_49, Option.bind_some, ab_let, Option.elim_some, Option.elim_none, b2, c2, if_true, nI_1, show ∀ a : Int32, a + 0 = a from Int32.add_zero]
    by_cases e2 : ab_i g 45 k = 2
    · have t : y_std (ab_i g 45) k = true := by simp [y_std, zf, e2]
      rw [if_pos e2]
      rw [t] at ih
      exact ih
    · rw [if_neg e2]
      by_cases e3 : ab_i g 45 k = 3
      · have t : y_std (ab_i g 45) k = true := by simp [y_std, zf, e3]
        rw [if_pos e3]
        rw [t] at ih
        exact ih
      · rw [if_neg e3]
        by_cases e4 : ab_i g 45 k = 4
        · have t : y_std (ab_i g 45) k = true := by simp [y_std, zf, e4]
          rw [if_pos e4]
          rw [t] at ih
          exact ih
        · have t : y_std (ab_i g 45) k = false := by simp [y_std, zf, e2, e3, e4]
          rw [if_neg e4]
          rw [t] at ih
          exact ih
  | _, _, _, 0, h => absurd h (Nat.not_lt_zero _)
end STD
