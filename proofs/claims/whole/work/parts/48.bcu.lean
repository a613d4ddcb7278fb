section BCU
theorem nx_ush' {k j : Nat} (hk : k < 2 ^ 31) (hj : j < 32) : ((nI k).toUInt32 >>> ((nI j).toUInt32 &&& Int32.toUInt32 31)).toInt32 = nI (k >>> j) := by
  apply b_ext
  intro i hi
  rw [b_ushr j hj]
  unfold bt nI
  show (BitVec.ofNat 32 k).getLsbD (j + i) = (BitVec.ofNat 32 (k >>> j)).getLsbD i
  rw [BitVec.getLsbD_ofNat, BitVec.getLsbD_ofNat, Nat.testBit_shiftRight]
  by_cases h : j + i < 32
  · simp [h, hi]
  · have e : k.testBit (j + i) = false := Nat.testBit_lt_two_pow (Nat.lt_of_lt_of_le hk (Nat.pow_le_pow_right (by decide) (by omega)))
    simp [h, hi, e]
theorem nx_and' (a b : Nat) : nI a &&& nI b = nI (a &&& b) := by
  apply Int32.toBitVec_inj.mp
  show BitVec.ofNat 32 a &&& BitVec.ofNat 32 b = BitVec.ofNat 32 (a &&& b)
  apply BitVec.eq_of_toNat_eq
  simp [Nat.and_mod_two_pow]
theorem nx_sub {a b : Nat} (h : b ≤ a) : nI a - nI b = nI (a - b) := by
  have e : nI (a - b) + nI b = nI a := by rw [nI_add, Nat.sub_add_cancel h]
  rw [← e, Int32.add_sub_cancel]
theorem bc_nI {x : Nat} (h : x < 65536) (H : ab_HP) : f_J6_bitCount_0f7a4 (nI x) H = some (nI (pcN 16 x)) := by
  rw [← bcN_pc h]
  obtain ⟨R, hR⟩ : ∃ R, R = bcN x := ⟨_, rfl⟩
  rw [← hR]
  unfold f_J6_bitCount_0f7a4 ab_let
  have l1 : x >>> 1 ≤ x := by rw [Nat.shiftRight_eq_div_pow]; omega
  have a1 : ∀ y m : Nat, y &&& m ≤ y := fun y m => Nat.and_le_left
  have s1 := a1 (x >>> 1) 1431655765
  have e1 : nI x - ((((nI x).toUInt32 >>> ((1 : Int32).toUInt32 &&& Int32.toUInt32 31)).toInt32) &&& (1431655765 : Int32)) = nI (x - ((x >>> 1) &&& 1431655765)) := by
    rw [n_lit 1, nx_ush' (by omega) (by decide), n_lit 1431655765, nx_and', nx_sub (by omega)]
  rw [e1]
  try dsimp only
  generalize hv1 : x - ((x >>> 1) &&& 1431655765) = v1
  have b1 : v1 < 65536 := by omega
  have m2 := a1 v1 858993459
  have m3 := a1 (v1 >>> 2) 858993459
  have l2 : v1 >>> 2 ≤ v1 := by rw [Nat.shiftRight_eq_div_pow]; omega
  have e2 : (nI v1 &&& (858993459 : Int32)) + ((((nI v1).toUInt32 >>> ((2 : Int32).toUInt32 &&& Int32.toUInt32 31)).toInt32) &&& (858993459 : Int32)) = nI ((v1 &&& 858993459) + ((v1 >>> 2) &&& 858993459)) := by
    rw [n_lit 2, nx_ush' (by omega) (by decide), n_lit 858993459, nx_and', nx_and', nI_add]
  rw [e2]
  try dsimp only
  generalize hv2 : (v1 &&& 858993459) + ((v1 >>> 2) &&& 858993459) = v2
  have b2 : v2 < 131072 := by omega
  have l3 : v2 >>> 4 ≤ v2 := by rw [Nat.shiftRight_eq_div_pow]; omega
  have e3 : (nI v2 + (((nI v2).toUInt32 >>> ((4 : Int32).toUInt32 &&& Int32.toUInt32 31)).toInt32)) &&& (252645135 : Int32) = nI ((v2 + (v2 >>> 4)) &&& 252645135) := by
    rw [n_lit 4, nx_ush' (by omega) (by decide), n_lit 252645135, nI_add, nx_and']
  rw [e3]
  try dsimp only
  have m4 := a1 (v2 + (v2 >>> 4)) 252645135
  generalize hv3 : (v2 + (v2 >>> 4)) &&& 252645135 = v3
  have b3 : v3 < 262144 := by omega
  have l4 : v3 >>> 8 ≤ v3 := by rw [Nat.shiftRight_eq_div_pow]; omega
  have e4 : nI v3 + (((nI v3).toUInt32 >>> ((8 : Int32).toUInt32 &&& Int32.toUInt32 31)).toInt32) = nI (v3 + (v3 >>> 8)) := by
    rw [n_lit 8, nx_ush' (by omega) (by decide), nI_add]
  rw [e4]
  try dsimp only
  generalize hv4 : v3 + (v3 >>> 8) = v4
  have b4 : v4 < 524288 := by omega
  have l5 : v4 >>> 16 ≤ v4 := by rw [Nat.shiftRight_eq_div_pow]; omega
  have e5 : nI v4 + (((nI v4).toUInt32 >>> ((16 : Int32).toUInt32 &&& Int32.toUInt32 31)).toInt32) = nI (v4 + (v4 >>> 16)) := by
    rw [n_lit 16, nx_ush' (by omega) (by decide), nI_add]
  rw [e5]
  rw [n_lit 63, nx_and', hR]
  subst hv4 hv3 hv2 hv1
  rfl
/-- an int with no bit from 16 on -/
theorem bt_nat {x : Int32} {n : Nat} (hn : n < 32) (h : ∀ j, n ≤ j → j < 32 → bt x j = false) : ∃ k, k < 2 ^ n ∧ x = nI k ∧ ∀ j, bt x j = k.testBit j := by
  refine ⟨x.toBitVec.toNat, ?_, ?_, fun j => rfl⟩
  · apply Nat.lt_pow_two_of_testBit
    intro i hi
    by_cases q : i < 32
    · exact h i hi q
    · exact b_big (x := x) (by omega)
  · apply Int32.toBitVec_inj.mp
    show x.toBitVec = BitVec.ofNat 32 x.toBitVec.toNat
    simp
theorem bc_bt {x : Int32} (h : ∀ j, 16 ≤ j → j < 32 → bt x j = false) (H : ab_HP) : f_J6_bitCount_0f7a4 x H = some (nI (fb_ct (bt x) 16)) := by
  obtain ⟨k, hk, rfl, hb⟩ := bt_nat (by decide) h
  rw [bc_nI hk, pc_ct]
  congr 2
  apply fb_ct_cong
  intro j _
  exact (hb j).symm
theorem bits_l {H : ab_HP} : ∀ (n k c f : Nat), k < 2 ^ n → n ≤ 16 → n < f → f_X12_bits_l4 f (nI c) (nI k) H = some (nI (c + pcN n k))
  | 0, k, c, f + 1, hk, _, _ => by
    have : k = 0 := by omega
    subst this
    rw [f_X12_bits_l4, if_pos (by decide)]
    rfl
  | n + 1, k, c, f + 1, hk, hn, hf => by
    have hk2 : k < 65536 := Nat.lt_of_lt_of_le hk (Nat.pow_le_pow_right (n := 2) (by decide) hn)
    by_cases h0 : k = 0
    · subst h0
      rw [f_X12_bits_l4, if_pos (by decide)]
      have : ∀ n, pcN n 0 = 0 := by
        intro n
        induction n with
        | zero => rfl
        | succ n ih => rw [pcN]; simp [ih]
      rw [this]
      rfl
    · have h1 : ¬ nI k ≤ 0 := nI_nle (by omega) (by omega)
      have e1 : nI k &&& (1 : Int32) = nI (k % 2) := by
        rw [n_lit 1, nx_and', Nat.and_one_is_mod]
      have e2 : nI k >>> ((1 : Int32) &&& 31) = nI (k / 2) := by
        apply b_ext
        intro i hi
        have := b_sshr 1 (by decide) (nI k) hi
        rw [show ((1 : Int32) &&& 31) = (nI 1 &&& 31) from rfl, this]
        unfold bt nI
        show (if 1 + i < 32 then (BitVec.ofNat 32 k).getLsbD (1 + i) else (BitVec.ofNat 32 k).getLsbD 31) = (BitVec.ofNat 32 (k / 2)).getLsbD i
        rw [BitVec.getLsbD_ofNat, BitVec.getLsbD_ofNat, BitVec.getLsbD_ofNat]
        have t31 : k.testBit 31 = false := Nat.testBit_lt_two_pow (by omega)
        by_cases q : 1 + i < 32
        · rw [if_pos q, Nat.add_comm 1 i, Nat.testBit_succ]
          simp [hi]
          omega
        · rw [if_neg q, t31]
          have : (k / 2).testBit i = false := Nat.testBit_lt_two_pow (Nat.lt_of_lt_of_le (show k / 2 < 2 ^ 31 by omega) (Nat.pow_le_pow_right (by decide) (by omega)))
          simp [this]
      rw [f_X12_bits_l4, if_neg h1, e1, e2, nI_add, bits_l n (k / 2) (c + k % 2) f (by rw [Nat.pow_succ] at hk; omega) (by omega) (by omega), pcN]
      congr 2
      omega
  | _, _, _, 0, _, _, h => absurd h (Nat.not_lt_zero _)
theorem bits_bt {x : Int32} (h : ∀ j, 16 ≤ j → j < 32 → bt x j = false) (H : ab_HP) : f_X12_bits x H = some (nI (fb_ct (bt x) 16)) := by
  obtain ⟨k, hk, rfl, hb⟩ := bt_nat (by decide) h
  unfold f_X12_bits
  rw [show (0 : Int32) = nI 0 from rfl, bits_l 16 k 0 1000 hk (by decide) (by decide), pc_ct, Nat.zero_add]
  congr 2
  apply fb_ct_cong
  intro j _
  exact (hb j).symm
end BCU
