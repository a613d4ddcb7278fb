section MODP
/-! the Model's methods of a deed and of a pair are those plain functions -/
theorem mp_y {g : ab_HP} (hp : mp g) (y : yS) : mp (y_put g y) := hp
theorem m_get (g : ab_HP) (hp : mp g) {d k : Nat} (hd : d < 8) (hk : k < 5) : f_X12_get 31 (nI d) (nI k) g = some (t_g (ab_i g 32) d k) := by
  unfold f_X12_get
  have e : ((7 : Int32) + ((5 : Int32) * nI d)) + nI k = nI (7 + 5 * d + k) := by
    rw [n_lit 7, n_lit 5, nI_mul, nI_add, nI_add]
  simp only [hp 0, mp_0, mp_1, mp_2, mp_3, mp_4, mp_5, mp_6, mp_7, mp_8, mp_16, mp_19, mp_20, mp_21, mp_22, mp_23, mp_32, mp_39, shp_2, shp_4, shp_6, shp_8, shp_9, shp_10, shp_11, shp_12, shp_13, shp_14, shp_32, shp_33, shp_34, shp_35, shp_36, shp_37, shp_38, shp_39, shp_40, shp_41, shp_42, shp_43, shp_44, shp_45, shp_46, shp_47, shp_48, shp_49, Option.bind_some, e, in_nI (show 7 + 5 * d + k < 47 by omega) (by decide), if_true, nI_clamp (show 7 + 5 * d + k < 2 ^ 31 by omega)]
  rfl
theorem m_get0 (g : ab_HP) (hp : mp g) {d : Nat} (hd : d < 8) : f_X12_get 31 (nI d) 0 g = some (t_g (ab_i g 32) d 0) := m_get g hp hd (by decide)
theorem m_get1 (g : ab_HP) (hp : mp g) {d : Nat} (hd : d < 8) : f_X12_get 31 (nI d) 1 g = some (t_g (ab_i g 32) d 1) := m_get g hp hd (by decide)
theorem m_get2 (g : ab_HP) (hp : mp g) {d : Nat} (hd : d < 8) : f_X12_get 31 (nI d) 2 g = some (t_g (ab_i g 32) d 2) := m_get g hp hd (by decide)
theorem m_get3 (g : ab_HP) (hp : mp g) {d : Nat} (hd : d < 8) : f_X12_get 31 (nI d) 3 g = some (t_g (ab_i g 32) d 3) := m_get g hp hd (by decide)
theorem m_get4 (g : ab_HP) (hp : mp g) {d : Nat} (hd : d < 8) : f_X12_get 31 (nI d) 4 g = some (t_g (ab_i g 32) d 4) := m_get g hp hd (by decide)
theorem m_cost (g : ab_HP) (hp : mp g) {d : Nat} (hd : d < 8) : f_X12_costOf 31 (nI d) g = some (t_cost (ab_i g 32) d) := by
  unfold f_X12_costOf t_cost dc_cost
  simp only [m_get0 g hp hd, m_get3 g hp hd, m_get4 g hp hd, Option.bind_some]
  repeat' split
  all_goals rfl
theorem m_back (g : ab_HP) (hp : mp g) {d : Nat} (hd : d < 8) : f_X12_backOf 31 (nI d) g = some (t_back (ab_i g 32) d) := by
  unfold f_X12_backOf t_back dc_back f_X12_backOf_b48 f_X12_backOf_b65
  simp only [m_get0 g hp hd, m_cost g hp hd, m_get4 g hp hd, Option.bind_some]
  repeat' split
  all_goals rfl
theorem m_kept (g : ab_HP) (hp : mp g) {d : Nat} (hd : d < 8) : f_X12_isKept 31 (nI d) g = some (t_kept (ab_i g 32) d) := by
  unfold f_X12_isKept t_kept dc_kept f_X12_isKept_b42
  simp only [m_get0 g hp hd, m_get4 g hp hd, Option.bind_some]
  repeat' split
  all_goals rfl
theorem m_marks (g : ab_HP) (hp : mp g) {d : Nat} (hd : d < 8) (so : Int32) : f_X12_marksBy 31 (nI d) so g = some (t_marks (ab_i g 32) d so) := by
  unfold f_X12_marksBy t_marks dc_marks dc_bit
  simp only [m_get0 g hp hd, m_get2 g hp hd, m_get4 g hp hd, Option.bind_some]
  repeat' split
  all_goals rfl
theorem m_may (g : ab_HP) (hp : mp g) {d : Nat} (hd : d < 8) (so c : Int32) : f_X12_mayBy 31 (nI d) so c g = some (bI (t_mayb (ab_i g 32) d so c)) := by
  unfold bI f_X12_mayBy t_mayb t_lack
  simp only [m_get1 g hp hd, m_cost g hp hd, Option.bind_some, Bool.and_eq_true, decide_eq_true_eq]
  split
  · rename_i h1
    split
    · rename_i h2
      rw [if_neg]
      rintro ⟨_, h3⟩
      rw [n_lt] at h2
      rw [n_le] at h3
      omega
    · rename_i h2
      rw [if_pos]
      refine ⟨h1, ?_⟩
      rw [n_lt] at h2
      rw [n_le]
      omega
  · rename_i h1
    rw [if_neg]
    exact fun e => h1 e.1
theorem m_price (g : ab_HP) (hp : mp g) (i : Nat) : f_X12_priceOf 31 (nI i) g = some (t_price (ab_i g 32) i) := by
  unfold f_X12_priceOf t_price
  simp only [hp 0, mp_0, mp_1, mp_2, mp_3, mp_4, mp_5, mp_6, mp_7, mp_8, mp_16, mp_19, mp_20, mp_21, mp_22, mp_23, mp_32, mp_39, shp_2, shp_4, shp_6, shp_8, shp_9, shp_10, shp_11, shp_12, shp_13, shp_14, shp_32, shp_33, shp_34, shp_35, shp_36, shp_37, shp_38, shp_39, shp_40, shp_41, shp_42, shp_43, shp_44, shp_45, shp_46, shp_47, shp_48, shp_49, in_l0, in_l1, in_l2, in_l3, in_l4, in_l5, in_l6, lit_c0, lit_c1, lit_c2, lit_c3, lit_c4, lit_c5, lit_c6, Option.bind_some, ab_let, Option.elim_some, Option.elim_none, decide_true, if_true, Nat.reduceLT]
  split <;> rfl
theorem m_hold (g : ab_HP) (hp : mp g) {i : Nat} (hi : i < 16) : f_X12_holds 31 (nI i) g = some (bI (y_hold (ab_i g 45) i)) := by
  unfold bI f_X12_holds y_hold
  simp only [hp 22, mp_0, mp_1, mp_2, mp_3, mp_4, mp_5, mp_6, mp_7, mp_8, mp_16, mp_19, mp_20, mp_21, mp_22, mp_23, mp_32, mp_39, shp_2, shp_4, shp_6, shp_8, shp_9, shp_10, shp_11, shp_12, shp_13, shp_14, shp_32, shp_33, shp_34, shp_35, shp_36, shp_37, shp_38, shp_39, shp_40, shp_41, shp_42, shp_43, shp_44, shp_45, shp_46, shp_47, shp_48, shp_49, Option.bind_some, ab_let, Option.elim_some, Option.elim_none, in_nI hi (by decide), if_true, nI_clamp (show i < 2 ^ 31 by omega), Bool.or_eq_true, decide_eq_true_eq]
  split
  · rename_i h; simp [h]
  · rename_i h
    split
    · rename_i h2; simp [h2]
    · rename_i h2; simp [h, h2]
end MODP
