section CLM
/-! the class's methods of a pair are those plain functions -/
def cp_tab (r k : Nat) : Option Nat := if r = 0 then (if k = 0 then some 1 else if k = 1 then some 3 else if k = 2 then some 5 else if k = 3 then some 7 else if k < 8 then some (k + 7) else none) else if r = 1 ∧ k = 0 then some 2 else if r = 3 ∧ k = 0 then some 4 else if r = 5 ∧ k = 0 then some 6 else if r = 7 ∧ k < 3 then some (8 + k) else if r = 11 ∧ k < 8 then some (15 + 2 * k) else if 15 ≤ r ∧ r < 31 ∧ r % 2 = 1 ∧ k = 0 then some (r + 1) else none
def cp (h : ab_HP) : Prop := ∀ r k v, cp_tab r k = some v → ab_r h r k = some v
def dc_sets (k m f : Int32) : Int32 := if k = 6 then 0 else if k = 7 then dc_bit m ||| dc_bit f else dc_bit m
def dc_clears (k m : Int32) : Int32 := if k = 6 then dc_bit m else 0
def dc_care (k p f : Int32) : Int32 := if k = 1 then 12 else if k = 2 then 4 + p else if k = 3 then 4 + p - f else if k = 4 then 1 else if k = 5 then 13 else if k = 6 then 8 else if k = 7 then f else 4
def dc_fail (d : Nat) (k p f : Int32) : Int32 := if k = 5 then 100 + nI d else if k = 7 then 200 + dc_care k p f else nI d
def dc_can (k f : Int32) : Int32 := if k = 3 then 0 else if f = 0 then 0 else 1
/-- the Deed r is deed d of the town s -/
def dk (h : ab_HP) (r : Nat) (s : Nat → Int32) (d : Nat) : Prop := 50 ≤ r ∧ (ab_i h r 0 = nI d ∧ ab_i h r 1 = t_g s d 1 ∧ ab_i h r 2 = t_g s d 2 ∧ ab_i h r 3 = t_g s d 3 ∧ ab_i h r 4 = t_g s d 4 ∧ ab_i h r 5 = t_g s d 0) ∧ ab_i h r 6 = t_cost s d ∧ ab_i h r 7 = t_back s d ∧ ab_i h r 8 = dc_sets (t_g s d 0) (t_g s d 2) (t_g s d 4) ∧ ab_i h r 9 = dc_clears (t_g s d 0) (t_g s d 2) ∧ ab_i h r 10 = t_kept s d ∧ ab_i h r 11 = dc_care (t_g s d 0) (t_g s d 3) (t_g s d 4) ∧ ab_i h r 12 = dc_fail d (t_g s d 0) (t_g s d 3) (t_g s d 4) ∧ ab_i h r 13 = dc_can (t_g s d 0) (t_g s d 4)
theorem dk_marks (s : Nat → Int32) (d : Nat) (so : Int32) : (so ||| dc_sets (t_g s d 0) (t_g s d 2) (t_g s d 4)) &&& (dc_clears (t_g s d 0) (t_g s d 2) ^^^ (-1)) = t_marks s d so := by
  unfold dc_sets dc_clears t_marks dc_marks
  split
  · rename_i e
    rw [Int32.or_zero]
  · split
    · apply b_ext
      intro j hj
      simp only [b_and, b_or, b_xor, b_m1 j hj, b_0]
      simp [Bool.or_assoc]
    · apply b_ext
      intro j hj
      simp only [b_and, b_or, b_xor, b_m1 j hj, b_0]
      simp
def cl (h : ab_HP) (n : Nat) (li : Nat → Nat) (s : Nat → Int32) : Prop := n ≤ 16 ∧ ab_i h 7 5 = nI n ∧ ∀ i, i < n → li i < 8 ∧ ∃ r, ab_r h 8 i = some r ∧ dk h r s (li i)
def ct (h : ab_HP) (s : Nat → Int32) : Prop := ab_r h 7 3 = some 1 ∧ ab_i h 1 5 = s 4 ∧ ab_i h 1 6 = s 5
theorem c_has (x : Int32) {i : Nat} (hi : i < 32) (h : ab_HP) : f_X10_has x (nI i) h = some (bI (bt x i)) := by
  unfold f_X10_has
  simp only [bt_has x hi]
  cases bt x i <;> rfl
theorem c_deedAt {h : ab_HP} (hc : cp h) {n : Nat} {li : Nat → Nat} {s : Nat → Int32} (hl : cl h n li s) {i : Nat} (hi : i < n) (z : zS) : f_X10_deedAt 7 (nI i) (z_put h z) = some (ab_r h 8 i) := by
  have hn := hl.1
  have q16 : ab_in (nI i) 16 = true := in_nI (by omega) (by decide)
  have qc : (nI i).toNatClampNeg = i := nI_clamp (by omega)
  unfold f_X10_deedAt
  have h1 : ¬ nI n ≤ nI i := nI_ge hi (by omega)
  have h2 : ¬ Int32.ofNat 16 ≤ nI i := nI_ge (b := 16) (by omega) (by decide)
  simp only [nI_lt0 (show i < 2 ^ 31 by omega), if_false, z_a4, z_a5, z_a6, z_a7, z_a8, z_a9, z_a10, z_a11, z_a12, z_a13, z_b9, z_b10, z_t, z_r, z_l, z_1, hl.2.1, h1, hc 0 0 1 rfl, hc 0 1 3 rfl, hc 0 2 5 rfl, hc 0 3 7 rfl, hc 0 4 11 rfl, hc 0 5 12 rfl, hc 0 6 13 rfl, hc 0 7 14 rfl, hc 1 0 2 rfl, hc 3 0 4 rfl, hc 5 0 6 rfl, hc 7 0 8 rfl, hc 7 1 9 rfl, hc 7 2 10 rfl, shp_2, shp_4, shp_6, shp_8, shp_9, shp_10, shp_11, shp_12, shp_13, shp_14, shp_32, shp_33, shp_34, shp_35, shp_36, shp_37, shp_38, shp_39, shp_40, shp_41, shp_42, shp_43, shp_44, shp_45, shp_46, shp_47, shp_48, shp_49, Option.bind_some, ab_let, Option.elim_some, Option.elim_none, h2, q16, if_true, qc]
theorem c_store9 {h : ab_HP} {i : Nat} (hi : i < 16) (v : Int32) (z : zS) : f_X11_store (some 9) (nI i) v (z_put h z) = some (ab_ip (z_put h z) 9 i v) := by
  have q16 : ab_in (nI i) 16 = true := in_nI (by omega) (by decide)
  have qc : (nI i).toNatClampNeg = i := nI_clamp (by omega)
  have h2 : ¬ Int32.ofNat 16 ≤ nI i := nI_ge (b := 16) (by omega) (by decide)
  unfold f_X11_store
  simp only [nI_lt0 (show i < 2 ^ 31 by omega), if_false, shp_2, shp_4, shp_6, shp_8, shp_9, shp_10, shp_11, shp_12, shp_13, shp_14, shp_32, shp_33, shp_34, shp_35, shp_36, shp_37, shp_38, shp_39, shp_40, shp_41, shp_42, shp_43, shp_44, shp_45, shp_46, shp_47, shp_48, shp_49, Option.bind_some, ab_let, Option.elim_some, Option.elim_none, h2, q16, if_true, qc]
theorem c_store10 {h : ab_HP} {i : Nat} (hi : i < 16) (v : Int32) (z : zS) : f_X11_store (some 10) (nI i) v (z_put h z) = some (ab_ip (z_put h z) 10 i v) := by
  have q16 : ab_in (nI i) 16 = true := in_nI (by omega) (by decide)
  have qc : (nI i).toNatClampNeg = i := nI_clamp (by omega)
  have h2 : ¬ Int32.ofNat 16 ≤ nI i := nI_ge (b := 16) (by omega) (by decide)
  unfold f_X11_store
  simp only [nI_lt0 (show i < 2 ^ 31 by omega), if_false, shp_2, shp_4, shp_6, shp_8, shp_9, shp_10, shp_11, shp_12, shp_13, shp_14, shp_32, shp_33, shp_34, shp_35, shp_36, shp_37, shp_38, shp_39, shp_40, shp_41, shp_42, shp_43, shp_44, shp_45, shp_46, shp_47, shp_48, shp_49, Option.bind_some, ab_let, Option.elim_some, Option.elim_none, h2, q16, if_true, qc]
theorem c_at9 {h : ab_HP} {i : Nat} (hi : i < 16) (z : zS) : f_X11_at (some 9) (nI i) (z_put h z) = some (z.2.2.2.2.2.2.2.2.1 i) := by
  have q16 : ab_in (nI i) 16 = true := in_nI (by omega) (by decide)
  have qc : (nI i).toNatClampNeg = i := nI_clamp (by omega)
  have h2 : ¬ Int32.ofNat 16 ≤ nI i := nI_ge (b := 16) (by omega) (by decide)
  unfold f_X11_at
  simp only [nI_lt0 (show i < 2 ^ 31 by omega), if_false, shp_2, shp_4, shp_6, shp_8, shp_9, shp_10, shp_11, shp_12, shp_13, shp_14, shp_32, shp_33, shp_34, shp_35, shp_36, shp_37, shp_38, shp_39, shp_40, shp_41, shp_42, shp_43, shp_44, shp_45, shp_46, shp_47, shp_48, shp_49, Option.bind_some, ab_let, Option.elim_some, Option.elim_none, h2, q16, if_true, qc, z_b9]
theorem c_at10 {h : ab_HP} {i : Nat} (hi : i < 16) (z : zS) : f_X11_at (some 10) (nI i) (z_put h z) = some (z.2.2.2.2.2.2.2.2.2 i) := by
  have q16 : ab_in (nI i) 16 = true := in_nI (by omega) (by decide)
  have qc : (nI i).toNatClampNeg = i := nI_clamp (by omega)
  have h2 : ¬ Int32.ofNat 16 ≤ nI i := nI_ge (b := 16) (by omega) (by decide)
  unfold f_X11_at
  simp only [nI_lt0 (show i < 2 ^ 31 by omega), if_false, shp_2, shp_4, shp_6, shp_8, shp_9, shp_10, shp_11, shp_12, shp_13, shp_14, shp_32, shp_33, shp_34, shp_35, shp_36, shp_37, shp_38, shp_39, shp_40, shp_41, shp_42, shp_43, shp_44, shp_45, shp_46, shp_47, shp_48, shp_49, Option.bind_some, ab_let, Option.elim_some, Option.elim_none, h2, q16, if_true, qc, z_b10]
theorem c_may {h : ab_HP} {r : Nat} {s : Nat → Int32} {d : Nat} (hd : dk h r s d) (z : zS) (m c : Int32) : f_X1_mayBeDone r m c (z_put h z) = some (bI (t_mayb s d m c)) := by
  unfold f_X1_mayBeDone f_X1_hasGround t_mayb t_lack
  simp only [z_d h z _ hd.1, hd.2.1.2.1, hd.2.2.1]
  by_cases h1 : t_g s d 1 &&& (m ^^^ (-1)) = 0
  · simp only [h1, if_true, Option.bind_some]
    by_cases h2 : t_cost s d ≤ c
    · simp only [h2, fa_not_lt h2, if_false, decide_true, Bool.and_self, bI_t]
      rw [if_neg (by decide)]
    · simp only [h2, fa_lt_of h2, if_true, decide_false, Bool.and_false, bI_f]
      rw [if_neg (by decide)]
  · simp only [h1, if_false, Option.bind_some, if_true, decide_false, Bool.false_and, bI_f]
theorem c_ground {h : ab_HP} {r : Nat} {s : Nat → Int32} {d : Nat} (hd : dk h r s d) (z : zS) (m : Int32) : f_X1_hasGround r m (z_put h z) = some (bI (decide (t_lack s d m = 0))) := by
  unfold f_X1_hasGround t_lack
  simp only [z_d h z _ hd.1, hd.2.1.2.1]
  by_cases h1 : t_g s d 1 &&& (m ^^^ (-1)) = 0
  · simp only [h1, if_true, decide_true, bI_t]
  · simp only [h1, if_false, decide_false, bI_f]
theorem c_price {h : ab_HP} {s : Nat → Int32} (ht : ct h s) (i : Nat) (z : zS) : f_X9_nailCost 1 (nI i) (z_put h z) = some (t_price s i) := by
  unfold f_X9_nailCost t_price
  simp only [z_t, ht.2.1, ht.2.2]
  split <;> rfl
theorem c_even1 {h : ab_HP} (hc : cp h) {n : Nat} {li : Nat → Nat} {s : Nat → Int32} (hl : cl h n li s) (ht : ct h s) {i : Nat} (hi : i < n) (nails : Int32) (z : zS) : f_X10_evenPlace 7 (nI i) nails (z_put h z) = some (z_put h (z_even1 s li nails i z)) := by
  have hn := hl.1
  obtain ⟨h8, r, hr, hd⟩ := hl.2.2 i hi
  obtain ⟨m, c, p, dn, un, nl, fm, fl, MD, LS⟩ := z
  have hm := dk_marks s (li i)
  unfold f_X10_evenPlace
  simp only [c_deedAt hc hl hi, hr, Option.bind_some, ab_let, Option.elim_some, Option.elim_none, c_may hd, z_a4, z_a5, z_a6, z_a7, z_a8, z_a9, z_a10, z_a11, z_a12, z_a13, z_b9, z_b10, z_t, z_r, z_l, z_1, bI_0, f_X1_marksBehind, z_d h _ _ hd.1, hd.2.2.2.2.1, hd.2.2.2.2.2.1, hm, hc 0 0 1 rfl, hc 0 1 3 rfl, hc 0 2 5 rfl, hc 0 3 7 rfl, hc 0 4 11 rfl, hc 0 5 12 rfl, hc 0 6 13 rfl, hc 0 7 14 rfl, hc 1 0 2 rfl, hc 3 0 4 rfl, hc 5 0 6 rfl, hc 7 0 8 rfl, hc 7 1 9 rfl, hc 7 2 10 rfl, c_store9 (show i < 16 by omega), c_store10 (show i < 16 by omega), z_p6, z_p7, z_p8, z_p9, z_p10, z_p11, z_p12, z_p13, z_q9, z_q10, hd.2.2.1, hd.2.2.2.2.2.2.1, f_X10_evenPlace_b120, c_has nails (show i < 32 by omega), f_X10_nailAt, ht.1, c_price ht, z_even1]
  cases t_mayb s (li i) m c
  · simp only [if_true, Bool.false_eq_true, if_false]
  · simp only [Bool.true_eq_false, if_true, if_false]
    by_cases hk : t_kept s (li i) = 0
    · simp only [hk, if_true]
      cases bt nails i
      · simp only [if_true, Bool.false_eq_true, if_false, false_and]
      · by_cases hq : t_price s i ≤ c - t_cost s (li i)
        · simp only [hq, if_true, Bool.true_eq_false, if_false, true_and, fa_not_lt hq, Option.bind_some]
        · simp only [hq, if_true, Bool.true_eq_false, if_false, and_false, fa_lt_of hq, Option.bind_some]
    · simp only [hk, if_false]
      cases bt nails i
      · simp only [if_true, Bool.false_eq_true, if_false, false_and]
      · by_cases hq : t_price s i ≤ c - t_cost s (li i)
        · simp only [hq, if_true, Bool.true_eq_false, if_false, true_and, fa_not_lt hq, Option.bind_some]
        · simp only [hq, if_true, Bool.true_eq_false, if_false, and_false, fa_lt_of hq, Option.bind_some]
end CLM
