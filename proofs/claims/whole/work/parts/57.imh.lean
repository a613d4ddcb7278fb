section IMH
theorem t_g_c47 {s s' : Nat → Int32} (h : ∀ k, k < 47 → s' k = s k) {d k : Nat} (hd : d < 8) (hk : k < 5) : t_g s' d k = t_g s d k := h _ (by omega)
theorem dk_47 {h : ab_HP} {r : Nat} {s s' : Nat → Int32} (e : ∀ k, k < 47 → s' k = s k) {d : Nat} (hd : d < 8) (H : dk h r s d) : dk h r s' d := by
  unfold dk t_cost t_back t_kept at H ⊢
  simp only [t_g_c47 e hd (show 0 < 5 by decide), t_g_c47 e hd (show 1 < 5 by decide), t_g_c47 e hd (show 2 < 5 by decide), t_g_c47 e hd (show 3 < 5 by decide), t_g_c47 e hd (show 4 < 5 by decide)]
  exact H
theorem tw_c47 {N : Nat} {s s' : Nat → Int32} (e : ∀ k, k < 47 → s' k = s k) (H : tw N s) : tw N s' := by
  obtain ⟨a1, a2, a3, a4, a5, a6, a7⟩ := H
  refine ⟨a1, by rw [e 6 (by decide)]; exact a2, by rw [e 0 (by decide)]; exact a3, by rw [e 1 (by decide)]; exact a4, by rw [e 3 (by decide)]; exact a5, by rw [e 4 (by decide)]; exact a6, ?_⟩
  intro d hd
  have := a7 d hd
  have hd8 : d < 8 := by omega
  simp only [t_g_c47 e hd8 (show 0 < 5 by decide), t_g_c47 e hd8 (show 1 < 5 by decide), t_g_c47 e hd8 (show 2 < 5 by decide), t_g_c47 e hd8 (show 3 < 5 by decide), t_g_c47 e hd8 (show 4 < 5 by decide)]
  exact this
/-- a town that has become another -/
theorem c_become {t o N : Nat} (ho : o ≠ t) (ho3 : o ≠ t + 1) (hN : N ≤ 8) (sht : ab_shp (t + 1) = (8, 8)) (sho : ab_shp (o + 1) = (8, 8)) {h : ab_HP} (ht0 : ab_r h t 0 = some (t + 1)) (ho0 : ab_r h o 0 = some (o + 1)) (h1 : ab_i h o 1 = nI N) : ∃ u, f_X9_become t (some o) h = some u ∧ u.1 = h.1 ∧ (∀ r k, ab_i u r k = if r = t ∧ 1 ≤ k ∧ k ≤ 7 then ab_i h o k else ab_i h r k) ∧ (∀ r k, ab_r u r k = if r = t + 1 ∧ k < 8 then (if k < N then ab_r h (o + 1) k else none) else ab_r h r k) ∧ ∀ r k, ab_l u r k = ab_l h r k := by
  have e := c_bec ho (by omega) ho3 hN sht sho (fun k => if k < N then ab_r h (o + 1) k else none) 8 0 h ht0 ho0 h1 (fun k => rfl) rfl 1000 (by omega)
  rw [show nI 0 = 0 from rfl] at e
  refine ⟨bcF t o (bq t (fun k => if k < N then ab_r h (o + 1) k else none) 8 0 h), ?_, ?_, ?_, ?_, ?_⟩
  · unfold f_X9_become
    exact e
  · have : (bcF t o (bq t (fun k => if k < N then ab_r h (o + 1) k else none) 8 0 h)).1 = (bq t (fun k => if k < N then ab_r h (o + 1) k else none) 8 0 h).1 := rfl
    rw [this, bq_1]
  · intro r k
    rw [bcF_i, bq_i, bq_i]
  · intro r k
    have : ab_r (bcF t o (bq t (fun k => if k < N then ab_r h (o + 1) k else none) 8 0 h)) r k = ab_r (bq t (fun k => if k < N then ab_r h (o + 1) k else none) 8 0 h) r k := rfl
    rw [this, bq_r]
    by_cases q : r = t + 1 ∧ k < 8
    · rw [if_pos (by omega), if_pos q]
    · rw [if_neg (by omega), if_neg q]
  · intro r k
    have : ab_l (bcF t o (bq t (fun k => if k < N then ab_r h (o + 1) k else none) 8 0 h)) r k = ab_l (bq t (fun k => if k < N then ab_r h (o + 1) k else none) 8 0 h) r k := rfl
    rw [this, bq_l]
/-- the Model's rows taken over, one number after the other -/
def hk (a b : Nat) : Nat → Nat → ab_HP → ab_HP
  | 0, _, g => g
  | c + 1, k, g => hk a b c (k + 1) (ab_ip g b k (ab_i g a k))
theorem hk_i {a b : Nat} (hab : a ≠ b) : ∀ (c k : Nat) (g : ab_HP) (r j : Nat), ab_i (hk a b c k g) r j = if r = b ∧ k ≤ j ∧ j < k + c then ab_i g a j else ab_i g r j
  | 0, k, g, r, j => by rw [hk, if_neg (by omega)]
  | c + 1, k, g, r, j => by
    rw [hk, hk_i hab c (k + 1) _ r j, hi_ip, hi_ip, if_neg (show ¬ (a = b ∧ j = k) by omega)]
    by_cases q : r = b ∧ j = k
    · rw [if_neg (by omega), if_pos q, if_pos (by omega), q.2]
    · rw [if_neg q]
      by_cases q2 : r = b ∧ k + 1 ≤ j ∧ j < k + 1 + c
      · rw [if_pos q2, if_pos (by omega)]
      · rw [if_neg q2, if_neg (by omega)]
theorem hk_r (a b : Nat) : ∀ (c k : Nat) (g : ab_HP) (r j : Nat), ab_r (hk a b c k g) r j = ab_r g r j
  | 0, _, _, _, _ => rfl
  | c + 1, k, g, r, j => by rw [hk, hk_r a b c (k + 1) _ r j, hr_ip]
theorem hk_1 (a b : Nat) : ∀ (c k : Nat) (g : ab_HP), (hk a b c k g).1 = g.1
  | 0, _, _ => rfl
  | c + 1, k, g => by rw [hk, hk_1 a b c (k + 1) _, h1_ip]
theorem m_image : ∀ (c k : Nat) (g : ab_HP), mp g → k + c = 47 → ∀ f, c < f → f_X12_image_l2 31 f (nI k) g = some (ab_i (hk 32 33 c k g) 32 2, ab_ip (hk 32 33 c k g) 31 9 1)
  | 0, k, g, hp, e, f + 1, _ => by
    have e : k = 47 := by omega
    subst e
    rw [f_X12_image_l2, if_pos (show (47 : Int32) ≤ nI 47 by decide)]
    simp only [hr_ip, hp 0, mp_0, mp_1, mp_2, mp_3, mp_4, mp_5, mp_6, mp_7, mp_8, mp_16, mp_19, mp_20, mp_21, mp_22, mp_23, mp_32, mp_39, shp_2, shp_4, shp_6, shp_8, shp_9, shp_10, shp_11, shp_12, shp_13, shp_14, shp_32, shp_33, shp_34, shp_35, shp_36, shp_37, shp_38, shp_39, shp_40, shp_41, shp_42, shp_43, shp_44, shp_45, shp_46, shp_47, shp_48, shp_49, Option.bind_some, ab_let, Option.elim_some, Option.elim_none, in_l0, in_l1, in_l2, in_l3, in_l4, in_l5, in_l6, lit_c0, lit_c1, lit_c2, lit_c3, lit_c4, lit_c5, lit_c6, Nat.reduceLT, decide_true, if_true]
    rfl
  | c + 1, k, g, hp, e, f + 1, hf => by
    have q : ab_in (nI k) 47 = true := in_nI (by omega) (by decide)
    have qc : (nI k).toNatClampNeg = k := nI_clamp (by omega)
    have h2 : ¬ (47 : Int32) ≤ nI k := nI_ge (b := 47) (by omega) (by decide)
    rw [f_X12_image_l2, if_neg h2]
    simp only [hp 0, hp 1, mp_0, mp_1, mp_2, mp_3, mp_4, mp_5, mp_6, mp_7, mp_8, mp_16, mp_19, mp_20, mp_21, mp_22, mp_23, mp_32, mp_39, shp_2, shp_4, shp_6, shp_8, shp_9, shp_10, shp_11, shp_12, shp_13, shp_14, shp_32, shp_33, shp_34, shp_35, shp_36, shp_37, shp_38, shp_39, shp_40, shp_41, shp_42, shp_43, shp_44, shp_45, shp_46, shp_47, shp_48, shp_49, Option.bind_some, ab_let, Option.elim_some, Option.elim_none, q, if_true, qc, nI_1]
    rw [m_image c (k + 1) _ (mp_ip hp _ _ _) (by omega) f (by omega)]
    rfl
  | _, _, _, _, _, 0, h => absurd h (Nat.not_lt_zero _)
theorem m_restore : ∀ (c k : Nat) (g : ab_HP), mp g → k + c = 47 → ∀ f, c < f → f_X12_restore_l12 31 f (nI k) g = some (ab_i (hk 33 32 c k g) 32 2, hk 33 32 c k g)
  | 0, k, g, hp, e, f + 1, _ => by
    have e : k = 47 := by omega
    subst e
    rw [f_X12_restore_l12, if_pos (show (47 : Int32) ≤ nI 47 by decide)]
    simp only [hp 0, mp_0, mp_1, mp_2, mp_3, mp_4, mp_5, mp_6, mp_7, mp_8, mp_16, mp_19, mp_20, mp_21, mp_22, mp_23, mp_32, mp_39, shp_2, shp_4, shp_6, shp_8, shp_9, shp_10, shp_11, shp_12, shp_13, shp_14, shp_32, shp_33, shp_34, shp_35, shp_36, shp_37, shp_38, shp_39, shp_40, shp_41, shp_42, shp_43, shp_44, shp_45, shp_46, shp_47, shp_48, shp_49, Option.bind_some, ab_let, Option.elim_some, Option.elim_none, in_l0, in_l1, in_l2, in_l3, in_l4, in_l5, in_l6, lit_c0, lit_c1, lit_c2, lit_c3, lit_c4, lit_c5, lit_c6, Nat.reduceLT, decide_true, if_true]
    rfl
  | c + 1, k, g, hp, e, f + 1, hf => by
    have q : ab_in (nI k) 47 = true := in_nI (by omega) (by decide)
    have qc : (nI k).toNatClampNeg = k := nI_clamp (by omega)
    have h2 : ¬ (47 : Int32) ≤ nI k := nI_ge (b := 47) (by omega) (by decide)
    rw [f_X12_restore_l12, if_neg h2]
    simp only [hp 0, hp 1, mp_0, mp_1, mp_2, mp_3, mp_4, mp_5, mp_6, mp_7, mp_8, mp_16, mp_19, mp_20, mp_21, mp_22, mp_23, mp_32, mp_39, shp_2, shp_4, shp_6, shp_8, shp_9, shp_10, shp_11, shp_12, shp_13, shp_14, shp_32, shp_33, shp_34, shp_35, shp_36, shp_37, shp_38, shp_39, shp_40, shp_41, shp_42, shp_43, shp_44, shp_45, shp_46, shp_47, shp_48, shp_49, Option.bind_some, ab_let, Option.elim_some, Option.elim_none, q, if_true, qc, nI_1]
    rw [m_restore c (k + 1) _ (mp_ip hp _ _ _) (by omega) f (by omega)]
    rfl
  | _, _, _, _, _, 0, h => absurd h (Nat.not_lt_zero _)
end IMH
