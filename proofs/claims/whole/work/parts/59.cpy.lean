section CPY
def hca (S D : Nat) : Nat → Nat → ab_HP → ab_HP
  | 0, _, g => g
  | c + 1, m, g => hca S D c (m + 1) (ab_ip g 38 (D + m) (ab_i g 38 (S + m)))
def hcd (S D : Nat) : Nat → ab_HP → ab_HP
  | 0, g => g
  | c + 1, g => hcd S D c (ab_ip g 38 (D + c) (ab_i g 38 (S + c)))
theorem hca_i {S D n : Nat} (sep : ∀ t m, t < m → m < n → S + m ≠ D + t) : ∀ (c m : Nat) (g : ab_HP), m + c = n → ∀ r k, ab_i (hca S D c m g) r k = if r = 38 ∧ D + m ≤ k ∧ k < D + n then ab_i g 38 (S + (k - D)) else ab_i g r k
  | 0, m, g, e, r, k => by rw [hca, if_neg (by omega)]
  | c + 1, m, g, e, r, k => by
    rw [hca, hca_i sep c (m + 1) _ (by omega) r k]
    by_cases q : r = 38 ∧ D + (m + 1) ≤ k ∧ k < D + n
    · have := sep m (k - D) (by omega) (by omega)
      rw [if_pos q, if_pos (by omega), hi_ip, if_neg (by omega)]
    · rw [if_neg q, hi_ip]
      by_cases q2 : r = 38 ∧ k = D + m
      · rw [if_pos q2, if_pos (by omega), show S + (k - D) = S + m by omega]
      · rw [if_neg q2, if_neg (by omega)]
theorem hcd_i {S D n : Nat} (sep : ∀ t m, m < t → t < n → S + m ≠ D + t) : ∀ (c : Nat) (g : ab_HP), c ≤ n → ∀ r k, ab_i (hcd S D c g) r k = if r = 38 ∧ D ≤ k ∧ k < D + c then ab_i g 38 (S + (k - D)) else ab_i g r k
  | 0, g, e, r, k => by rw [hcd, if_neg (by omega)]
  | c + 1, g, e, r, k => by
    rw [hcd, hcd_i sep c _ (by omega) r k]
    by_cases q : r = 38 ∧ D ≤ k ∧ k < D + c
    · have := sep c (k - D) (by omega) (by omega)
      rw [if_pos q, if_pos (by omega), hi_ip, if_neg (by omega)]
    · rw [if_neg q, hi_ip]
      by_cases q2 : r = 38 ∧ k = D + c
      · rw [if_pos q2, if_pos (by omega), show S + (k - D) = S + c by omega]
      · rw [if_neg q2, if_neg (by omega)]
theorem hca_r (S D : Nat) : ∀ (c m : Nat) (g : ab_HP) (r k : Nat), ab_r (hca S D c m g) r k = ab_r g r k
  | 0, _, _, _, _ => rfl
  | c + 1, m, g, r, k => by rw [hca, hca_r S D c (m + 1) _ r k, hr_ip]
theorem hcd_r (S D : Nat) : ∀ (c : Nat) (g : ab_HP) (r k : Nat), ab_r (hcd S D c g) r k = ab_r g r k
  | 0, _, _, _ => rfl
  | c + 1, g, r, k => by rw [hcd, hcd_r S D c _ r k, hr_ip]
theorem hca_1 (S D : Nat) : ∀ (c m : Nat) (g : ab_HP), (hca S D c m g).1 = g.1
  | 0, _, _ => rfl
  | c + 1, m, g => by rw [hca, hca_1 S D c (m + 1) _, h1_ip]
theorem hcd_1 (S D : Nat) : ∀ (c : Nat) (g : ab_HP), (hcd S D c g).1 = g.1
  | 0, _ => rfl
  | c + 1, g => by rw [hcd, hcd_1 S D c _, h1_ip]
theorem m_cpa {d e i j n : Nat} (hd : d < 8) (he : e < 8) (hi : i + n ≤ 100) (hj : j + n ≤ 100) (hij : j < i) : ∀ (c m : Nat) (g : ab_HP), mp g → m + c = n → ∀ f, c < f → f_X12_copy_l122 31 f (nI d) (nI i) (nI e) (nI j) (nI n) (nI m) g = some (nI n, hca (100 * d + i) (100 * e + j) c m g)
  | 0, m, g, hp, e1, f + 1, _ => by
    have e1 : m = n := by omega
    subst e1
    rw [f_X12_copy_l122, if_pos (nI_le (Nat.le_refl _) (by omega))]
    rfl
  | c + 1, m, g, hp, e1, f + 1, hf => by
    have a1 : ((100 : Int32) * nI d + nI i) + nI m = nI (100 * d + i + m) := by rw [n_lit 100, nI_mul, nI_add, nI_add]
    have a2 : ((100 : Int32) * nI e + nI j) + nI m = nI (100 * e + j + m) := by rw [n_lit 100, nI_mul, nI_add, nI_add]
    have b1 : ab_in (nI (100 * d + i + m)) 800 = true := in_nI (by omega) (by decide)
    have b2 : ab_in (nI (100 * e + j + m)) 800 = true := in_nI (by omega) (by decide)
    have c1 : (nI (100 * d + i + m)).toNatClampNeg = 100 * d + i + m := nI_clamp (by omega)
    have c2 : (nI (100 * e + j + m)).toNatClampNeg = 100 * e + j + m := nI_clamp (by omega)
    rw [f_X12_copy_l122, if_neg (nI_ge (show m < n by omega) (by omega)), if_neg (nI_ge hij (by omega))]
    simp only [hp 6, mp_0, mp_1, mp_2, mp_3, mp_4, mp_5, mp_6, mp_7, mp_8, mp_16, mp_19, mp_20, mp_21, mp_22, mp_23, mp_32, mp_39, shp_2, shp_4, shp_6, shp_8, shp_9, shp_10, shp_11, shp_12, shp_13, shp_14, shp_32, shp_33, shp_34, shp_35, shp_36, shp_37, shp_38, shp_39, shp_40, shp_41, shp_42, shp_43, shp_44, shp_45, shp_46, shp_47, shp_48, shp_49, Option.bind_some, ab_let, Option.elim_some, Option.elim_none, a1, a2, b1, b2, c1, c2, if_true, nI_1]
    rw [m_cpa hd he hi hj hij c (m + 1) _ (mp_ip hp _ _ _) (by omega) f (by omega)]
    rfl
  | _, _, _, _, _, 0, h => absurd h (Nat.not_lt_zero _)
theorem m_cpd {d e i j n : Nat} (hd : d < 8) (he : e < 8) (hi : i + n ≤ 100) (hj : j + n ≤ 100) (hij : i ≤ j) : ∀ (c m : Nat) (g : ab_HP), mp g → m + c = n → ∀ f, c < f → f_X12_copy_l122 31 f (nI d) (nI i) (nI e) (nI j) (nI n) (nI m) g = some (nI n, hcd (100 * d + i) (100 * e + j) c g)
  | 0, m, g, hp, e1, f + 1, _ => by
    have e1 : m = n := by omega
    subst e1
    rw [f_X12_copy_l122, if_pos (nI_le (Nat.le_refl _) (by omega))]
    rfl
  | c + 1, m, g, hp, e1, f + 1, hf => by
    have s1 : (nI n - 1) - nI m = nI c := by
      rw [nI_sub1 (by omega)]
      have : nI c + nI m = nI (n - 1) := by rw [nI_add]; congr 1; omega
      rw [← this, Int32.add_sub_cancel]
    have a1 : ((100 : Int32) * nI d + nI i) + nI c = nI (100 * d + i + c) := by rw [n_lit 100, nI_mul, nI_add, nI_add]
    have a2 : ((100 : Int32) * nI e + nI j) + nI c = nI (100 * e + j + c) := by rw [n_lit 100, nI_mul, nI_add, nI_add]
    have b1 : ab_in (nI (100 * d + i + c)) 800 = true := in_nI (by omega) (by decide)
    have b2 : ab_in (nI (100 * e + j + c)) 800 = true := in_nI (by omega) (by decide)
    have c1 : (nI (100 * d + i + c)).toNatClampNeg = 100 * d + i + c := nI_clamp (by omega)
    have c2 : (nI (100 * e + j + c)).toNatClampNeg = 100 * e + j + c := nI_clamp (by omega)
    rw [f_X12_copy_l122, if_neg (nI_ge (show m < n by omega) (by omega)), if_pos (nI_le hij (by omega))]
    simp only [hp 6, mp_0, mp_1, mp_2, mp_3, mp_4, mp_5, mp_6, mp_7, mp_8, mp_16, mp_19, mp_20, mp_21, mp_22, mp_23, mp_32, mp_39, shp_2, shp_4, shp_6, shp_8, shp_9, shp_10, shp_11, shp_12, shp_13, shp_14, shp_32, shp_33, shp_34, shp_35, shp_36, shp_37, shp_38, shp_39, shp_40, shp_41, shp_42, shp_43, shp_44, shp_45, shp_46, shp_47, shp_48, shp_49, Option.bind_some, ab_let, Option.elim_some, Option.elim_none, s1, a1, a2, b1, b2, c1, c2, if_true, nI_1]
    rw [m_cpd hd he hi hj hij c (m + 1) _ (mp_ip hp _ _ _) (by omega) f (by omega)]
    rfl
  | _, _, _, _, _, 0, h => absurd h (Nat.not_lt_zero _)
/-- the Model's copy: what stood there, now here -/
theorem m_cpy {d e i j n : Nat} (hd : d < 8) (he : e < 8) (hi : i + n ≤ 100) (hj : j + n ≤ 100) (g : ab_HP) (hp : mp g) : ∃ w, f_X12_copy_l122 31 1000 (nI d) (nI i) (nI e) (nI j) (nI n) 0 g = some (nI n, w) ∧ w.1 = g.1 ∧ (∀ r k, ab_r w r k = ab_r g r k) ∧ ∀ r k, ab_i w r k = if r = 38 ∧ 100 * e + j ≤ k ∧ k < 100 * e + j + n then ab_i g 38 (100 * d + i + (k - (100 * e + j))) else ab_i g r k := by
  rcases Nat.lt_or_ge j i with q | q
  · refine ⟨_, m_cpa hd he hi hj q n 0 g hp (by omega) 1000 (by omega), hca_1 _ _ _ _ _, hca_r _ _ _ _ _, ?_⟩
    intro r k
    rw [hca_i (n := n) (by intro t m h1 h2; omega) n 0 g (by omega) r k]
    rfl
  · refine ⟨_, m_cpd hd he hi hj q n 0 g hp (by omega) 1000 (by omega), hcd_1 _ _ _ _, hcd_r _ _ _ _, ?_⟩
    intro r k
    rw [hcd_i (n := n) (by intro t m h1 h2; omega) n g (Nat.le_refl _) r k]
end CPY
