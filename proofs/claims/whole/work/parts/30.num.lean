section NUM
/-! numbers, places, the heap's reads: plain facts -/
theorem n_lt (a b : Int32) : a < b ↔ a.toInt < b.toInt := Int32.lt_iff_toInt_lt
theorem n_le (a b : Int32) : a ≤ b ↔ a.toInt ≤ b.toInt := Int32.le_iff_toInt_le
theorem n_eq (a b : Int32) : a = b ↔ a.toInt = b.toInt := Int32.toInt_inj.symm
theorem n_lt64 (a b : Int64) : a < b ↔ a.toInt < b.toInt := Int64.lt_iff_toInt_lt
theorem n_le64 (a b : Int64) : a ≤ b ↔ a.toInt ≤ b.toInt := Int64.le_iff_toInt_le
theorem n_rng (x : Int32) : -2147483648 ≤ x.toInt ∧ x.toInt < 2147483648 := by
  have h1 := Int32.le_toInt x
  have h2 := Int32.toInt_lt x
  omega
theorem n_bmod {z : Int} (h1 : -2147483648 ≤ z) (h2 : z < 2147483648) : z.bmod (2 ^ 32) = z := by
  rw [Int.bmod_def]; split <;> omega
theorem n_add {x y : Int32} (h1 : -2147483648 ≤ x.toInt + y.toInt) (h2 : x.toInt + y.toInt < 2147483648) : (x + y).toInt = x.toInt + y.toInt := by
  rw [Int32.toInt_add]; exact n_bmod h1 h2
theorem n_sub {x y : Int32} (h1 : -2147483648 ≤ x.toInt - y.toInt) (h2 : x.toInt - y.toInt < 2147483648) : (x - y).toInt = x.toInt - y.toInt := by
  rw [Int32.toInt_sub]; exact n_bmod h1 h2
theorem n_mul {x y : Int32} (h1 : -2147483648 ≤ x.toInt * y.toInt) (h2 : x.toInt * y.toInt < 2147483648) : (x * y).toInt = x.toInt * y.toInt := by
  rw [Int32.toInt_mul]; exact n_bmod h1 h2
theorem n_lit (n : Nat) : (OfNat.ofNat n : Int32) = nI n := rfl
theorem in_nI {k n : Nat} (h : k < n) (hn : n ≤ 1000) : ab_in (nI k) n = true := by
  have h1 : ¬ nI k < 0 := nI_pos (by omega)
  simp only [ab_in, nI_clamp (show k < 2 ^ 31 by omega), h, decide_true, Bool.and_true, h1, decide_false, Bool.not_false]
theorem in_no {x : Int32} {n : Nat} (h : ab_in x n = true) : ∃ k, k < n ∧ x.toNatClampNeg = k ∧ x = nI k := by
  simp only [ab_in, Bool.and_eq_true, Bool.not_eq_true', decide_eq_false_iff_not, decide_eq_true_eq] at h
  obtain ⟨j, h1, h2⟩ := nI_of h.1
  exact ⟨j, by rw [h2, nI_clamp h1] at h; exact h.2, by rw [h2, nI_clamp h1], h2⟩
theorem n_in {x : Int32} {n : Nat} (h1 : 0 ≤ x.toInt) (h2 : x.toInt < n) : ∃ k, k < n ∧ x = nI k := by
  obtain ⟨j, h3, h4⟩ := nI_of (x := x) (by rw [n_lt]; show ¬ x.toInt < 0; omega)
  refine ⟨j, ?_, h4⟩
  rw [h4, nI_toInt h3] at h2
  omega
theorem nI_sub1 {k : Nat} (h : 0 < k) : nI k - 1 = nI (k - 1) := by
  obtain ⟨j, rfl⟩ : ∃ j, k = j + 1 := ⟨k - 1, by omega⟩
  exact nI_pred j
theorem nI_addm1 {k : Nat} (h : 0 < k) : nI k + (-1) = nI (k - 1) := by
  obtain ⟨j, rfl⟩ : ∃ j, k = j + 1 := ⟨k - 1, by omega⟩
  rw [nI_succ, Int32.add_assoc, show (1 : Int32) + (-1) = 0 from rfl, Int32.add_zero]; rfl
theorem nI_mul (a b : Nat) : nI a * nI b = nI (a * b) := by
  apply Int32.toBitVec_inj.mp
  show BitVec.ofNat 32 a * BitVec.ofNat 32 b = BitVec.ofNat 32 (a * b)
  exact (BitVec.ofNat_mul ..).symm
theorem nI_lt0 {k : Nat} (h : k < 2 ^ 31) : (nI k < 0) = False := eq_false (nI_pos h)
theorem nI_m1 : nI 0 + (-1) < 0 := by decide
theorem lit_c0 : (0 : Int32).toNatClampNeg = 0 := rfl
theorem lit_c1 : (1 : Int32).toNatClampNeg = 1 := rfl
theorem lit_c2 : (2 : Int32).toNatClampNeg = 2 := rfl
theorem lit_c3 : (3 : Int32).toNatClampNeg = 3 := rfl
theorem lit_c4 : (4 : Int32).toNatClampNeg = 4 := rfl
theorem lit_c5 : (5 : Int32).toNatClampNeg = 5 := rfl
theorem lit_c6 : (6 : Int32).toNatClampNeg = 6 := rfl
theorem in_l0 {n : Nat} : ab_in 0 n = decide (0 < n) := by
  show (!(decide ((0 : Int32) < 0)) && decide ((0 : Int32).toNatClampNeg < n)) = _
  rw [show ((0 : Int32).toNatClampNeg) = 0 from rfl, show decide ((0 : Int32) < 0) = false from rfl]; rfl
theorem in_l1 {n : Nat} : ab_in 1 n = decide (1 < n) := by
  show (!(decide ((1 : Int32) < 0)) && decide ((1 : Int32).toNatClampNeg < n)) = _
  rw [show ((1 : Int32).toNatClampNeg) = 1 from rfl, show decide ((1 : Int32) < 0) = false from rfl]; rfl
theorem in_l2 {n : Nat} : ab_in 2 n = decide (2 < n) := by
  show (!(decide ((2 : Int32) < 0)) && decide ((2 : Int32).toNatClampNeg < n)) = _
  rw [show ((2 : Int32).toNatClampNeg) = 2 from rfl, show decide ((2 : Int32) < 0) = false from rfl]; rfl
theorem in_l3 {n : Nat} : ab_in 3 n = decide (3 < n) := by
  show (!(decide ((3 : Int32) < 0)) && decide ((3 : Int32).toNatClampNeg < n)) = _
  rw [show ((3 : Int32).toNatClampNeg) = 3 from rfl, show decide ((3 : Int32) < 0) = false from rfl]; rfl
theorem in_l4 {n : Nat} : ab_in 4 n = decide (4 < n) := by
  show (!(decide ((4 : Int32) < 0)) && decide ((4 : Int32).toNatClampNeg < n)) = _
  rw [show ((4 : Int32).toNatClampNeg) = 4 from rfl, show decide ((4 : Int32) < 0) = false from rfl]; rfl
theorem in_l5 {n : Nat} : ab_in 5 n = decide (5 < n) := by
  show (!(decide ((5 : Int32) < 0)) && decide ((5 : Int32).toNatClampNeg < n)) = _
  rw [show ((5 : Int32).toNatClampNeg) = 5 from rfl, show decide ((5 : Int32) < 0) = false from rfl]; rfl
theorem in_l6 {n : Nat} : ab_in 6 n = decide (6 < n) := by
  show (!(decide ((6 : Int32) < 0)) && decide ((6 : Int32).toNatClampNeg < n)) = _
  rw [show ((6 : Int32).toNatClampNeg) = 6 from rfl, show decide ((6 : Int32) < 0) = false from rfl]; rfl
theorem shp_2 : ab_shp 2 = (8, 8) := rfl
theorem shp_4 : ab_shp 4 = (8, 8) := rfl
theorem shp_6 : ab_shp 6 = (8, 8) := rfl
theorem shp_8 : ab_shp 8 = (8, 16) := rfl
theorem shp_9 : ab_shp 9 = (6, 16) := rfl
theorem shp_10 : ab_shp 10 = (6, 16) := rfl
theorem shp_11 : ab_shp 11 = (9, 8) := rfl
theorem shp_12 : ab_shp 12 = (6, 5) := rfl
theorem shp_13 : ab_shp 13 = (6, 241) := rfl
theorem shp_14 : ab_shp 14 = (6, 241) := rfl
theorem shp_32 : ab_shp 32 = (6, 47) := rfl
theorem shp_33 : ab_shp 33 = (6, 47) := rfl
theorem shp_34 : ab_shp 34 = (6, 47) := rfl
theorem shp_35 : ab_shp 35 = (6, 8) := rfl
theorem shp_36 : ab_shp 36 = (6, 8) := rfl
theorem shp_37 : ab_shp 37 = (6, 8) := rfl
theorem shp_38 : ab_shp 38 = (6, 800) := rfl
theorem shp_39 : ab_shp 39 = (6, 8) := rfl
theorem shp_40 : ab_shp 40 = (6, 8) := rfl
theorem shp_41 : ab_shp 41 = (6, 3) := rfl
theorem shp_42 : ab_shp 42 = (6, 16) := rfl
theorem shp_43 : ab_shp 43 = (6, 16) := rfl
theorem shp_44 : ab_shp 44 = (6, 16) := rfl
theorem shp_45 : ab_shp 45 = (6, 16) := rfl
theorem shp_46 : ab_shp 46 = (6, 16) := rfl
theorem shp_47 : ab_shp 47 = (6, 5) := rfl
theorem shp_48 : ab_shp 48 = (6, 16) := rfl
theorem shp_49 : ab_shp 49 = (7, 1) := rfl
theorem shp_d {r : Nat} (h : 50 ≤ r) : ab_shp r = (4, 0) := by
  unfold ab_shp
  have e : ab_tab.length = 50 := by decide +kernel
  rw [List.getD_eq_getElem?_getD, List.getElem?_eq_none (by omega)]; rfl
theorem hi_ip (h : ab_HP) (r k : Nat) (v : Int32) (r' k' : Nat) : ab_i (ab_ip h r k v) r' k' = if r' = r ∧ k' = k then v else ab_i h r' k' := rfl
theorem hi_rp (h : ab_HP) (r k : Nat) (v : Option Nat) (r' k' : Nat) : ab_i (ab_rp h r k v) r' k' = ab_i h r' k' := rfl
theorem hi_lp (h : ab_HP) (r k : Nat) (v : Int64) (r' k' : Nat) : ab_i (ab_lp h r k v) r' k' = ab_i h r' k' := rfl
theorem hi_nw (h : ab_HP) (r' k' : Nat) : ab_i (ab_nw h) r' k' = if r' = h.1 then 0 else ab_i h r' k' := rfl
theorem hr_ip (h : ab_HP) (r k : Nat) (v : Int32) (r' k' : Nat) : ab_r (ab_ip h r k v) r' k' = ab_r h r' k' := rfl
theorem hr_rp (h : ab_HP) (r k : Nat) (v : Option Nat) (r' k' : Nat) : ab_r (ab_rp h r k v) r' k' = if r' = r ∧ k' = k then v else ab_r h r' k' := rfl
theorem hr_lp (h : ab_HP) (r k : Nat) (v : Int64) (r' k' : Nat) : ab_r (ab_lp h r k v) r' k' = ab_r h r' k' := rfl
theorem hr_nw (h : ab_HP) (r' k' : Nat) : ab_r (ab_nw h) r' k' = if r' = h.1 then none else ab_r h r' k' := rfl
theorem hl_ip (h : ab_HP) (r k : Nat) (v : Int32) (r' k' : Nat) : ab_l (ab_ip h r k v) r' k' = ab_l h r' k' := rfl
theorem hl_rp (h : ab_HP) (r k : Nat) (v : Option Nat) (r' k' : Nat) : ab_l (ab_rp h r k v) r' k' = ab_l h r' k' := rfl
theorem hl_lp (h : ab_HP) (r k : Nat) (v : Int64) (r' k' : Nat) : ab_l (ab_lp h r k v) r' k' = if r' = r ∧ k' = k then v else ab_l h r' k' := rfl
theorem h1_ip (h : ab_HP) (r k : Nat) (v : Int32) : (ab_ip h r k v).1 = h.1 := rfl
theorem h1_rp (h : ab_HP) (r k : Nat) (v : Option Nat) : (ab_rp h r k v).1 = h.1 := rfl
theorem h1_lp (h : ab_HP) (r k : Nat) (v : Int64) : (ab_lp h r k v).1 = h.1 := rfl
theorem h1_nw (h : ab_HP) : (ab_nw h).1 = h.1 + 1 := rfl
theorem h1_cp (h : ab_HP) (q i r j n : Nat) : (ab_cp h q i r j n).1 = h.1 := rfl
theorem hi_cp (h : ab_HP) (q i r j n r' k' : Nat) : ab_i (ab_cp h q i r j n) r' k' = if r' = r then va_cpy (ab_i h q) (ab_i h r) i j n k' else ab_i h r' k' := rfl
theorem hr_cp (h : ab_HP) (q i r j n r' k' : Nat) : ab_r (ab_cp h q i r j n) r' k' = ab_r h r' k' := rfl
theorem hl_cp (h : ab_HP) (q i r j n r' k' : Nat) : ab_l (ab_cp h q i r j n) r' k' = ab_l h r' k' := rfl
/-! isIn, of an int -/
theorem is_in0 (x : Int32) (a b : Int64) (l u : Int32) (h : ab_HP) (ha : l.toInt64 = a) (hb : u.toInt64 = b) : f_X12_isIn x.toInt64 a b h = some (if l ≤ x ∧ x ≤ u then 1 else 0) := by
  subst ha hb
  unfold f_X12_isIn
  simp only [lg_cmp_lt, lg_cmp_gt, n_lt64, n_le, Int32.toInt_toInt64]
  split
  · rw [if_neg (by omega)]
  · split
    · rw [if_neg (by omega)]
    · rw [if_pos (by omega)]
theorem is_0_7 (x : Int32) (h : ab_HP) : f_X12_isIn x.toInt64 0 7 h = some (if 0 ≤ x ∧ x ≤ 7 then 1 else 0) := is_in0 x _ _ _ _ h rfl rfl
theorem is_0_9 (x : Int32) (h : ab_HP) : f_X12_isIn x.toInt64 0 9 h = some (if 0 ≤ x ∧ x ≤ 9 then 1 else 0) := is_in0 x _ _ _ _ h rfl rfl
theorem is_48_57 (x : Int32) (h : ab_HP) : f_X12_isIn x.toInt64 48 57 h = some (if 48 ≤ x ∧ x ≤ 57 then 1 else 0) := is_in0 x _ _ _ _ h rfl rfl
theorem is_97_106 (x : Int32) (h : ab_HP) : f_X12_isIn x.toInt64 97 106 h = some (if 97 ≤ x ∧ x ≤ 106 then 1 else 0) := is_in0 x _ _ _ _ h rfl rfl
theorem is_0_4 (x : Int32) (h : ab_HP) : f_X12_isIn x.toInt64 0 4 h = some (if 0 ≤ x ∧ x ≤ 4 then 1 else 0) := is_in0 x _ _ _ _ h rfl rfl
theorem is_0_3 (x : Int32) (h : ab_HP) : f_X12_isIn x.toInt64 0 3 h = some (if 0 ≤ x ∧ x ≤ 3 then 1 else 0) := is_in0 x _ _ _ _ h rfl rfl
theorem is_0_2 (x : Int32) (h : ab_HP) : f_X12_isIn x.toInt64 0 2 h = some (if 0 ≤ x ∧ x ≤ 2 then 1 else 0) := is_in0 x _ _ _ _ h rfl rfl
theorem is_0_99 (x : Int32) (h : ab_HP) : f_X12_isIn x.toInt64 0 99 h = some (if 0 ≤ x ∧ x ≤ 99 then 1 else 0) := is_in0 x _ _ _ _ h rfl rfl
theorem is_0_9999 (x : Int32) (h : ab_HP) : f_X12_isIn x.toInt64 0 9999 h = some (if 0 ≤ x ∧ x ≤ 9999 then 1 else 0) := is_in0 x _ _ _ _ h rfl rfl
theorem is_0_255 (x : Int32) (h : ab_HP) : f_X12_isIn x.toInt64 0 255 h = some (if 0 ≤ x ∧ x ≤ 255 then 1 else 0) := is_in0 x _ _ _ _ h rfl rfl
theorem is_0_1023 (x : Int32) (h : ab_HP) : f_X12_isIn x.toInt64 0 1023 h = some (if 0 ≤ x ∧ x ≤ 1023 then 1 else 0) := is_in0 x _ _ _ _ h rfl rfl
theorem is_0_1 (x : Int32) (h : ab_HP) : f_X12_isIn x.toInt64 0 1 h = some (if 0 ≤ x ∧ x ≤ 1 then 1 else 0) := is_in0 x _ _ _ _ h rfl rfl
theorem is_1_2 (x : Int32) (h : ab_HP) : f_X12_isIn x.toInt64 1 2 h = some (if 1 ≤ x ∧ x ≤ 2 then 1 else 0) := is_in0 x _ _ _ _ h rfl rfl
theorem is_m999_999 (x : Int32) (h : ab_HP) : f_X12_isIn x.toInt64 (-999) 999 h = some (if (-999) ≤ x ∧ x ≤ 999 then 1 else 0) := is_in0 x _ _ _ _ h rfl rfl
theorem is_1_30 (x : Int32) (h : ab_HP) : f_X12_isIn x.toInt64 1 30 h = some (if 1 ≤ x ∧ x ≤ 30 then 1 else 0) := is_in0 x _ _ _ _ h rfl rfl
theorem is_2_5 (x : Int32) (h : ab_HP) : f_X12_isIn x.toInt64 2 5 h = some (if 2 ≤ x ∧ x ≤ 5 then 1 else 0) := is_in0 x _ _ _ _ h rfl rfl
/-! where the Model keeps its rows -/
def mp_tab (k : Nat) : Option Nat := if k < 9 then some (32 + k) else if k = 16 then some 41 else if k = 19 then some 42 else if k = 20 then some 43 else if k = 21 then some 44 else if k = 22 then some 45 else if k = 23 then some 46 else if k = 32 then some 47 else if k = 39 then some 48 else none
theorem mp_0 : mp_tab 0 = some 32 := rfl
theorem mp_1 : mp_tab 1 = some 33 := rfl
theorem mp_2 : mp_tab 2 = some 34 := rfl
theorem mp_3 : mp_tab 3 = some 35 := rfl
theorem mp_4 : mp_tab 4 = some 36 := rfl
theorem mp_5 : mp_tab 5 = some 37 := rfl
theorem mp_6 : mp_tab 6 = some 38 := rfl
theorem mp_7 : mp_tab 7 = some 39 := rfl
theorem mp_8 : mp_tab 8 = some 40 := rfl
theorem mp_16 : mp_tab 16 = some 41 := rfl
theorem mp_19 : mp_tab 19 = some 42 := rfl
theorem mp_20 : mp_tab 20 = some 43 := rfl
theorem mp_21 : mp_tab 21 = some 44 := rfl
theorem mp_22 : mp_tab 22 = some 45 := rfl
theorem mp_23 : mp_tab 23 = some 46 := rfl
theorem mp_32 : mp_tab 32 = some 47 := rfl
theorem mp_39 : mp_tab 39 = some 48 := rfl
def mp (g : ab_HP) : Prop := ∀ k, ab_r g 31 k = mp_tab k
theorem upd_e (f : Nat → Int32) (k : Nat) (x : Int32) (j : Nat) : upd f k x j = if j = k then x else f j := rfl
/-- a boolean as the machine holds it -/
def bI (b : Bool) : Int32 := if b = true then 1 else 0
theorem bI_t : bI true = 1 := rfl
theorem bI_f : bI false = 0 := rfl
theorem bI_0 (b : Bool) : (bI b = 0) = (b = false) := by cases b <;> simp [bI]
theorem bI_1 (b : Bool) : (bI b = 1) = (b = true) := by cases b <;> simp [bI]
theorem bI_if (p : Prop) [Decidable p] : (if p then (1 : Int32) else 0) = bI (decide p) := by by_cases h : p <;> simp [h, bI]
end NUM
