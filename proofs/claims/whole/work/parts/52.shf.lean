section SHF
/-! what a shelf is refused with -/
def w_row (g : ab_HP) (d : Nat) : Int32 := if ab_i g 35 d = 0 then -11 else if ab_i g 35 d = 2 then 0 else -12
def w_byt (g : ab_HP) (d : Nat) : Int32 := if ab_i g 35 d = 0 then -11 else if ab_i g 35 d = 2 then (if ab_i g 36 d = 0 then 0 else -12) else -12
def w_ded (g : ab_HP) (d : Nat) : Int32 := if ab_i g 35 d = 0 then -11 else if ab_i g 35 d = 1 then 0 else -12
theorem k_10 : ((1 : Int32) = 0) = False := eq_false (by decide)
theorem k_20 : ((2 : Int32) = 0) = False := eq_false (by decide)
theorem k_12 : ((1 : Int32) = 2) = False := eq_false (by decide)
theorem k_21 : ((2 : Int32) = 1) = False := eq_false (by decide)
theorem k_m10 : ((-1 : Int32) = 0) = False := eq_false (by decide)
theorem k_m110 : ((-11 : Int32) = 0) = False := eq_false (by decide)
theorem k_m120 : ((-12 : Int32) = 0) = False := eq_false (by decide)
theorem k_m130 : ((-13 : Int32) = 0) = False := eq_false (by decide)
theorem so_nm {g : ab_HP} {d o : Nat} (ho : o < 3) (e : ab_i g 36 d = nI o) : (ab_i g 36 d = -1) = False := by
  rw [e]
  rcases (by omega : o = 0 ∨ o = 1 ∨ o = 2) with rfl | rfl | rfl <;> exact eq_false (by decide)
theorem c_emp {h g : ab_HP} {d : Nat} (F : shd h g d) : f_X6_isEmpty (15 + 2 * d) h = some (bI (decide (ab_i g 35 d = 0))) := by
  unfold f_X6_isEmpty
  rcases F with ⟨F1, F2, F3⟩ | ⟨F1, F2, r, F3, _⟩ | ⟨F1, F2, F3, ⟨o, ho, F4⟩, _⟩
  · simp only [F2, Option.bind_some, ab_let, Option.elim_some, Option.elim_none, F3, if_true, F1, decide_true, bI_t]
  · simp only [F3, Option.bind_some, ab_let, Option.elim_some, Option.elim_none, F1, k_10, decide_false, bI_f]
  · simp only [F2, Option.bind_some, ab_let, Option.elim_some, Option.elim_none, F3, so_nm ho F4, if_false, F1, k_20, decide_false, bI_f]
theorem c_row {h g : ab_HP} {d : Nat} (F : shd h g d) : f_X6_rowRefusal (15 + 2 * d) h = some (w_row g d) := by
  unfold f_X6_rowRefusal w_row
  rw [c_emp F]
  simp only [Option.bind_some, bI_0, decide_eq_false_iff_not]
  rcases F with ⟨F1, F2, F3⟩ | ⟨F1, F2, r, F3, _⟩ | ⟨F1, F2, F3, ⟨o, ho, F4⟩, _⟩
  · simp only [F1, not_true, if_false, if_true]
  · simp only [F1, k_10, not_false_eq_true, F2, if_true, if_false, k_12]
  · simp only [F1, k_20, not_false_eq_true, F3, so_nm ho F4, if_true, if_false]
theorem c_byt {h g : ab_HP} {d : Nat} (F : shd h g d) : f_X6_bytesRefusal (15 + 2 * d) h = some (w_byt g d) := by
  unfold f_X6_bytesRefusal w_byt
  rw [c_emp F]
  simp only [Option.bind_some, bI_0, decide_eq_false_iff_not]
  rcases F with ⟨F1, F2, F3⟩ | ⟨F1, F2, r, F3, _⟩ | ⟨F1, F2, F3, ⟨o, ho, F4⟩, _⟩
  · simp only [F1, not_true, if_false, if_true]
  · simp only [F1, k_10, not_false_eq_true, F2, if_true, if_false, k_12, k_m10]
  · simp only [F1, k_20, not_false_eq_true, F3, if_true, if_false]
    split <;> rfl
theorem c_ded {h g : ab_HP} {d : Nat} (F : shd h g d) : f_X6_deedRefusal (15 + 2 * d) h = some (w_ded g d) := by
  unfold f_X6_deedRefusal w_ded
  rw [c_emp F]
  simp only [Option.bind_some, bI_0, decide_eq_false_iff_not]
  rcases F with ⟨F1, F2, F3⟩ | ⟨F1, F2, r, F3, _⟩ | ⟨F1, F2, F3, ⟨o, ho, F4⟩, _⟩
  · simp only [F1, not_true, if_false, if_true]
  · simp only [F1, k_10, not_false_eq_true, F3, Option.bind_some, ab_let, Option.elim_some, Option.elim_none, if_true, if_false]
  · simp only [F1, k_20, not_false_eq_true, F2, Option.bind_some, ab_let, Option.elim_some, Option.elim_none, if_true, if_false, k_21]
theorem shd_k {h g : ab_HP} {d : Nat} (F : shd h g d) : ab_i g 35 d = 0 ∨ ab_i g 35 d = 1 ∨ ab_i g 35 d = 2 := by
  rcases F with ⟨F1, _⟩ | ⟨F1, _⟩ | ⟨F1, _⟩
  · exact Or.inl F1
  · exact Or.inr (Or.inl F1)
  · exact Or.inr (Or.inr F1)
theorem m_rowA (g : ab_HP) (hp : mp g) {d : Nat} (hd : d < 8) : f_X12_wrongRow 31 (nI d) (-1) g = some (w_row g d) := by
  have q8 : ab_in (nI d) 8 = true := in_nI hd (by decide)
  have qc : (nI d).toNatClampNeg = d := nI_clamp (by omega)
  have b : (0 ≤ (nI d).toInt ∧ (nI d).toInt < 8) := by rw [nI_toInt (by omega)]; omega
  unfold f_X12_wrongRow w_row
  rw [m_isShelf, decide_eq_true b, bI_t]
  simp only [Option.bind_some, ab_let, Option.elim_some, Option.elim_none, one0, if_false, hp 3, mp_0, mp_1, mp_2, mp_3, mp_4, mp_5, mp_6, mp_7, mp_8, mp_16, mp_19, mp_20, mp_21, mp_22, mp_23, mp_32, mp_39, shp_2, shp_4, shp_6, shp_8, shp_9, shp_10, shp_11, shp_12, shp_13, shp_14, shp_32, shp_33, shp_34, shp_35, shp_36, shp_37, shp_38, shp_39, shp_40, shp_41, shp_42, shp_43, shp_44, shp_45, shp_46, shp_47, shp_48, shp_49, q8, qc, if_true, show ((-1 : Int32) < 0) = True from eq_true (by decide)]
  split
  · rfl
  · split <;> rfl
theorem m_rowB (g : ab_HP) (hp : mp g) {d : Nat} (hd : d < 8) : f_X12_wrongRow 31 (nI d) 0 g = some (w_byt g d) := by
  have q8 : ab_in (nI d) 8 = true := in_nI hd (by decide)
  have qc : (nI d).toNatClampNeg = d := nI_clamp (by omega)
  have b : (0 ≤ (nI d).toInt ∧ (nI d).toInt < 8) := by rw [nI_toInt (by omega)]; omega
  unfold f_X12_wrongRow w_byt
  rw [m_isShelf, decide_eq_true b, bI_t]
  simp only [Option.bind_some, ab_let, Option.elim_some, Option.elim_none, one0, if_false, hp 3, hp 4, mp_0, mp_1, mp_2, mp_3, mp_4, mp_5, mp_6, mp_7, mp_8, mp_16, mp_19, mp_20, mp_21, mp_22, mp_23, mp_32, mp_39, shp_2, shp_4, shp_6, shp_8, shp_9, shp_10, shp_11, shp_12, shp_13, shp_14, shp_32, shp_33, shp_34, shp_35, shp_36, shp_37, shp_38, shp_39, shp_40, shp_41, shp_42, shp_43, shp_44, shp_45, shp_46, shp_47, shp_48, shp_49, q8, qc, if_true, show ((0 : Int32) < 0) = False from eq_false (by decide)]
  split
  · rfl
  · split
    · split <;> rfl
    · rfl
theorem m_rowF (g : ab_HP) {i : Int32} (o : Int32) (hi : i.toInt < 0 ∨ (8 : Int) ≤ i.toInt) : f_X12_wrongRow 31 i o g = some (-1) := by
  unfold f_X12_wrongRow
  rw [m_isShelf, decide_eq_false (by omega), bI_f]
  simp only [Option.bind_some, ab_let, Option.elim_some, Option.elim_none, if_true]
theorem m_dedA (g : ab_HP) (hp : mp g) {d : Nat} (hd : d < 8) : f_X12_wrongKept 31 (nI d) g = some (w_ded g d) := by
  have q8 : ab_in (nI d) 8 = true := in_nI hd (by decide)
  have qc : (nI d).toNatClampNeg = d := nI_clamp (by omega)
  have b : (0 ≤ (nI d).toInt ∧ (nI d).toInt < 8) := by rw [nI_toInt (by omega)]; omega
  unfold f_X12_wrongKept w_ded
  rw [m_isShelf, decide_eq_true b, bI_t]
  simp only [Option.bind_some, ab_let, Option.elim_some, Option.elim_none, one0, if_false, hp 3, mp_0, mp_1, mp_2, mp_3, mp_4, mp_5, mp_6, mp_7, mp_8, mp_16, mp_19, mp_20, mp_21, mp_22, mp_23, mp_32, mp_39, shp_2, shp_4, shp_6, shp_8, shp_9, shp_10, shp_11, shp_12, shp_13, shp_14, shp_32, shp_33, shp_34, shp_35, shp_36, shp_37, shp_38, shp_39, shp_40, shp_41, shp_42, shp_43, shp_44, shp_45, shp_46, shp_47, shp_48, shp_49, q8, qc, if_true]
  split
  · rfl
  · split <;> rfl
theorem m_dedF (g : ab_HP) {i : Int32} (hi : i.toInt < 0 ∨ (8 : Int) ≤ i.toInt) : f_X12_wrongKept 31 i g = some (-1) := by
  unfold f_X12_wrongKept
  rw [m_isShelf, decide_eq_false (by omega), bI_f]
  simp only [Option.bind_some, ab_let, Option.elim_some, Option.elim_none, if_true]
theorem q_care (i : Int32) : callq (f_X11_care 0 i) (f_X12_care 31 i) := by
  rintro h g ⟨hc, hp, h50, ht, hi, hs⟩
  unfold f_X11_care f_X12_care
  rcases i_split 8 (by decide) i with ⟨d, hd, rfl⟩ | hn
  · have F := hs d hd
    have q8 : ab_in (nI d) 8 = true := in_nI hd (by decide)
    have qc : (nI d).toNatClampNeg = d := nI_clamp (by omega)
    simp only [c_shelf hc hd, m_dedA g hp hd, c_ded F, Option.bind_some, ab_let, Option.elim_some, Option.elim_none, hp 7, mp_0, mp_1, mp_2, mp_3, mp_4, mp_5, mp_6, mp_7, mp_8, mp_16, mp_19, mp_20, mp_21, mp_22, mp_23, mp_32, mp_39, shp_2, shp_4, shp_6, shp_8, shp_9, shp_10, shp_11, shp_12, shp_13, shp_14, shp_32, shp_33, shp_34, shp_35, shp_36, shp_37, shp_38, shp_39, shp_40, shp_41, shp_42, shp_43, shp_44, shp_45, shp_46, shp_47, shp_48, shp_49, q8, qc, if_true]
    unfold w_ded
    rcases F with ⟨F1, F2, F3⟩ | ⟨F1, F2, r, F3, F4, F5, F6, F7⟩ | ⟨F1, F2, F3, _⟩
    · simp only [F1, F2, Option.bind_some, ab_let, Option.elim_some, Option.elim_none, if_true, k_m110, if_false]
      exact ⟨_, rfl, rfl⟩
    · simp only [F1, F3, Option.bind_some, ab_let, Option.elim_some, Option.elim_none, if_true, k_10, if_false, F6]
      exact ⟨_, rfl, rfl⟩
    · simp only [F1, F2, Option.bind_some, ab_let, Option.elim_some, Option.elim_none, k_20, k_21, k_m120, if_false]
      exact ⟨_, rfl, rfl⟩
  · simp only [c_shelff hc hn, m_dedF g hn, Option.bind_some, ab_let, Option.elim_some, Option.elim_none, k_m10, if_false]
    exact ⟨_, rfl, rfl⟩
theorem p_toss (i : Int32) : ∀ h g, gr h g → ∃ a, f_X11_toss 0 i h = some (a, h) ∧ f_X12_toss 31 i g = some a := by
  rintro h g ⟨hc, hp, h50, ht, hi, hs⟩
  unfold f_X11_toss f_X12_toss
  rcases i_split 8 (by decide) i with ⟨d, hd, rfl⟩ | hn
  · have F := hs d hd
    have q8 : ab_in (nI d) 8 = true := in_nI hd (by decide)
    have qc : (nI d).toNatClampNeg = d := nI_clamp (by omega)
    simp only [c_shelf hc hd, m_dedA g hp hd, c_ded F, Option.bind_some, ab_let, Option.elim_some, Option.elim_none, hp 8, mp_0, mp_1, mp_2, mp_3, mp_4, mp_5, mp_6, mp_7, mp_8, mp_16, mp_19, mp_20, mp_21, mp_22, mp_23, mp_32, mp_39, shp_2, shp_4, shp_6, shp_8, shp_9, shp_10, shp_11, shp_12, shp_13, shp_14, shp_32, shp_33, shp_34, shp_35, shp_36, shp_37, shp_38, shp_39, shp_40, shp_41, shp_42, shp_43, shp_44, shp_45, shp_46, shp_47, shp_48, shp_49, q8, qc, if_true]
    unfold w_ded
    rcases F with ⟨F1, F2, F3⟩ | ⟨F1, F2, r, F3, F4, F5, F6, F7⟩ | ⟨F1, F2, F3, _⟩
    · simp only [F1, F2, Option.bind_some, ab_let, Option.elim_some, Option.elim_none, if_true, k_m110, if_false]
      exact ⟨_, rfl, rfl⟩
    · simp only [F1, F3, Option.bind_some, ab_let, Option.elim_some, Option.elim_none, if_true, k_10, if_false]
      rw [← F7]
      by_cases q : ab_i h r 13 = 0
      · simp only [q, if_true]
        exact ⟨_, rfl, rfl⟩
      · simp only [q, if_false]
        exact ⟨_, rfl, rfl⟩
    · simp only [F1, F2, Option.bind_some, ab_let, Option.elim_some, Option.elim_none, k_20, k_21, k_m120, if_false]
      exact ⟨_, rfl, rfl⟩
  · simp only [c_shelff hc hn, m_dedF g hn, Option.bind_some, ab_let, Option.elim_some, Option.elim_none, k_m10, if_false]
    exact ⟨_, rfl, rfl⟩
end SHF
