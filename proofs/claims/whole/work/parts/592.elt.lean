section ELT
theorem gr_lp {h g : ab_HP} (H : gr h g) (r k : Nat) (v : Int64) : gr (ab_lp h r k v) (ab_lp g r k v) := H
theorem gr_10 {h g : ab_HP} (H : gr h g) (v : Int32) : gr h (ab_ip g 31 10 v) ∧ gr (ab_ip h 31 10 v) (ab_ip g 31 10 v) := by
  have e : ∀ r k, ¬ (r = 31 ∧ k = 10) → ab_i (ab_ip g 31 10 v) r k = ab_i g r k := fun r k q => by rw [hi_ip, if_neg q]
  have a : gr h (ab_ip g 31 10 v) := by
    obtain ⟨hc, hp, h50, ⟨N, ht, hd⟩, hi, hs⟩ := H
    have e32 : ab_i (ab_ip g 31 10 v) 32 = ab_i g 32 := funext fun k => e 32 k (by omega)
    have e33 : ab_i (ab_ip g 31 10 v) 33 = ab_i g 33 := funext fun k => e 33 k (by omega)
    refine ⟨hc, hp, h50, ⟨N, by rw [e32]; exact ht, by rw [e32]; exact hd⟩, ?_, ?_⟩
    · rw [e 31 9 (by omega), e33]; exact hi
    · intro d hd8
      exact shd_same hd8 (Nat.le_refl _) (fun _ _ _ _ => rfl) rfl (fun r k h1 h2 => e r k (by omega)) (hs d hd8)
  exact ⟨a, a.eq (ceq_ip (by omega) (by omega)) (meq_refl _)⟩
theorem p_elem (i j : Int32) {u : ab_HP} (H : gr u u) : ∃ k v b w, f_L_element (some 0) i j (some 49) u = some (k, v) ∧ f_X12_element 31 i j v = some (b, w) ∧ gr w w ∧ ab_i w 31 10 = k ∧ (k = 0 → ab_l w 49 0 = b) := by
  have H0 := H
  obtain ⟨hc, hp, h50, ht, hi, hs⟩ := H
  have one : ((1 : Int32) = 0) = False := k_10
  unfold f_L_element
  rcases i_split 8 (by decide) i with ⟨d, hd, rfl⟩ | hn
  · have F := hs d hd
    have q8 : ab_in (nI d) 8 = true := in_nI hd (by decide)
    have qc : (nI d).toNatClampNeg = d := nI_clamp (by omega)
    have bd : decide (0 ≤ (nI d).toInt ∧ (nI d).toInt < 8) = true := decide_eq_true (by rw [nI_toInt (by omega)]; omega)
    simp only [c_shelf hc hd, c_row F, Option.bind_some, ab_let, Option.elim_some, Option.elim_none]
    unfold w_row
    by_cases k2 : ab_i u 35 d = 2
    · simp only [k2, k_20, if_false, if_true]
      rcases F with ⟨F1, _⟩ | ⟨F1, _⟩ | ⟨F1, F2, F3, ⟨o, ho, F4⟩, F5, n, F6, F7, F8⟩
      · rw [F1] at k2; exact absurd k2 (by decide)
      · rw [F1] at k2; exact absurd k2 (by decide)
      rw [c_place F6 (F5.trans F7)]
      by_cases hj : 0 ≤ j.toInt ∧ j.toInt < n
      · obtain ⟨k, hk, rfl⟩ := n_in hj.1 hj.2
        have e : (100 : Int32) * nI d + nI k = nI (100 * d + k) := by rw [n_lit 100, nI_mul, nI_add]
        have q2 : ab_in (nI (100 * d + k)) 800 = true := in_nI (by omega) (by decide)
        have qc2 : (nI (100 * d + k)).toNatClampNeg = 100 * d + k := nI_clamp (by omega)
        simp only [decide_eq_true hj, bI_t, Option.bind_some, ab_let, Option.elim_some, Option.elim_none, one, if_false, c_rd hc hd F6 (F5.trans F7) hk, shp_2, shp_4, shp_6, shp_8, shp_9, shp_10, shp_11, shp_12, shp_13, shp_14, shp_32, shp_33, shp_34, shp_35, shp_36, shp_37, shp_38, shp_39, shp_40, shp_41, shp_42, shp_43, shp_44, shp_45, shp_46, shp_47, shp_48, shp_49, in_l0, in_l1, in_l2, in_l3, in_l4, in_l5, in_l6, Nat.reduceLT, decide_true, if_true]
        refine ⟨0, ab_lp u 49 0 (ab_i u (16 + 2 * d) k).toInt64, (ab_i u 38 (100 * d + k)).toInt64, ab_ip (ab_lp u 49 0 (ab_i u (16 + 2 * d) k).toInt64) 31 10 0, rfl, ?_, (gr_10 (gr_lp H0 49 0 _) 0).2, ?_, ?_⟩
        · unfold f_X12_element
          rw [m_isShelf, bd, bI_t]
          simp only [Option.bind_some, ab_let, Option.elim_some, Option.elim_none, one, if_false, hr_lp, hr_ip, hi_lp, hp 3, hp 5, hp 6, mp_0, mp_1, mp_2, mp_3, mp_4, mp_5, mp_6, mp_7, mp_8, mp_16, mp_19, mp_20, mp_21, mp_22, mp_23, mp_32, mp_39, shp_2, shp_4, shp_6, shp_8, shp_9, shp_10, shp_11, shp_12, shp_13, shp_14, shp_32, shp_33, shp_34, shp_35, shp_36, shp_37, shp_38, shp_39, shp_40, shp_41, shp_42, shp_43, shp_44, shp_45, shp_46, shp_47, shp_48, shp_49, q8, qc, if_true, k2, F7]
          rw [is_in0 (nI k) 0 _ 0 (nI n - 1) _ rfl rfl, bI_if, decide_eq_true ((i_place n F6 (nI k)).mpr hj), bI_t]
          simp only [Option.bind_some, ab_let, Option.elim_some, Option.elim_none, one, if_false, e, q2, qc2, if_true, hi_ip, hi_lp, and_self]
          rw [if_neg (by omega)]
        · rw [hi_ip, if_pos ⟨rfl, rfl⟩]
        · intro _
          rw [hl_ip, hl_lp, if_pos ⟨rfl, rfl⟩, F8 k hk]
      · simp only [decide_eq_false hj, bI_f, Option.bind_some, ab_let, Option.elim_some, Option.elim_none, if_true]
        refine ⟨2, u, 0, ab_ip u 31 10 2, rfl, ?_, (gr_10 H0 2).2, ?_, ?_⟩
        · unfold f_X12_element
          rw [m_isShelf, bd, bI_t]
          simp only [Option.bind_some, ab_let, Option.elim_some, Option.elim_none, one, if_false, hr_ip, hp 3, hp 5, hp 6, mp_0, mp_1, mp_2, mp_3, mp_4, mp_5, mp_6, mp_7, mp_8, mp_16, mp_19, mp_20, mp_21, mp_22, mp_23, mp_32, mp_39, shp_2, shp_4, shp_6, shp_8, shp_9, shp_10, shp_11, shp_12, shp_13, shp_14, shp_32, shp_33, shp_34, shp_35, shp_36, shp_37, shp_38, shp_39, shp_40, shp_41, shp_42, shp_43, shp_44, shp_45, shp_46, shp_47, shp_48, shp_49, q8, qc, if_true, k2, F7]
          rw [is_in0 j 0 _ 0 (nI n - 1) _ rfl rfl, bI_if, decide_eq_false (fun q => hj ((i_place n F6 j).mp q)), bI_f]
          simp only [Option.bind_some, ab_let, Option.elim_some, Option.elim_none, if_true, hi_ip, and_self, k_20, if_false]
        · rw [hi_ip, if_pos ⟨rfl, rfl⟩]
        · intro q; exact absurd q (by decide)
    · have w0 : ¬ (if ab_i u 35 d = 0 then (-11 : Int32) else if ab_i u 35 d = 2 then 0 else -12) = 0 := by
        rw [if_neg k2]
        split <;> decide
      rw [if_neg w0]
      refine ⟨2, u, 0, ab_ip u 31 10 2, rfl, ?_, (gr_10 H0 2).2, ?_, ?_⟩
      · unfold f_X12_element
        rw [m_isShelf, bd, bI_t]
        simp only [Option.bind_some, ab_let, Option.elim_some, Option.elim_none, one, if_false, hr_ip, hp 3, hp 5, hp 6, mp_0, mp_1, mp_2, mp_3, mp_4, mp_5, mp_6, mp_7, mp_8, mp_16, mp_19, mp_20, mp_21, mp_22, mp_23, mp_32, mp_39, shp_2, shp_4, shp_6, shp_8, shp_9, shp_10, shp_11, shp_12, shp_13, shp_14, shp_32, shp_33, shp_34, shp_35, shp_36, shp_37, shp_38, shp_39, shp_40, shp_41, shp_42, shp_43, shp_44, shp_45, shp_46, shp_47, shp_48, shp_49, q8, qc, if_true, k2, hi_ip, and_self, k_20]
      · rw [hi_ip, if_pos ⟨rfl, rfl⟩]
      · intro q; exact absurd q (by decide)
  · have bd : decide (0 ≤ i.toInt ∧ i.toInt < 8) = false := decide_eq_false (by omega)
    simp only [c_shelff hc hn, Option.bind_some, ab_let, Option.elim_some, Option.elim_none]
    refine ⟨1, u, 0, ab_ip u 31 10 1, rfl, ?_, (gr_10 H0 1).2, ?_, ?_⟩
    · unfold f_X12_element
      rw [m_isShelf, bd, bI_f]
      simp only [Option.bind_some, ab_let, Option.elim_some, Option.elim_none, one, if_false, if_true, hi_ip, and_self]
    · rw [hi_ip, if_pos ⟨rfl, rfl⟩]
    · intro q; exact absurd q (by decide)
end ELT
