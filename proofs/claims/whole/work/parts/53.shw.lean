section SHW
/-- one shelf changes, and nothing else -/
theorem gr_shelf {h g h1 g1 : ab_HP} (H : gr h g) {d : Nat} (hd : d < 8) (e1 : h1.1 = h.1) (er : ∀ r k, ¬ (r = 15 + 2 * d ∧ k = 1) → ab_r h1 r k = ab_r h r k) (ei : ∀ r k, r ≠ 15 + 2 * d → r ≠ 16 + 2 * d → ab_i h1 r k = ab_i h r k) (gr1 : ∀ r k, ab_r g1 r k = ab_r g r k) (g31 : ∀ r k, r < 35 ∨ 40 < r → ¬ (r = 31 ∧ k ≠ 9) → ab_i g1 r k = ab_i g r k) (g35 : ∀ r k, 35 ≤ r → r ≤ 40 → r ≠ 38 → k ≠ d → ab_i g1 r k = ab_i g r k) (g38 : ∀ k, (k < 100 * d ∨ 100 * d + 100 ≤ k) → ab_i g1 38 k = ab_i g 38 k) (S : shd h1 g1 d) : gr h1 g1 := by
  obtain ⟨hc, hp, h50, ⟨N, ht, hd1⟩, hi, hs⟩ := H
  have e32 : ab_i g1 32 = ab_i g 32 := funext fun k => g31 32 k (Or.inl (by decide)) (by omega)
  have e33 : ab_i g1 33 = ab_i g 33 := funext fun k => g31 33 k (Or.inl (by decide)) (by omega)
  have e9 : ab_i g1 31 9 = ab_i g 31 9 := g31 31 9 (Or.inl (by decide)) (by omega)
  have tdx : ∀ t M s, (t = 1 ∨ t = 3) → td h t M s → td h1 t M s := by
    intro t M s ht K
    have e : ∀ k, ab_i h1 t k = ab_i h t k := fun k => ei t k (by omega) (by omega)
    refine ⟨by simp only [e]; exact K.1, ?_⟩
    intro j hj
    obtain ⟨r, q1, q2, q3⟩ := K.2 j hj
    exact ⟨r, by rw [er (t + 1) j (by omega)]; exact q1, by omega, dk_heap (fun k => ei r k (by have := q3.1; omega) (by have := q3.1; omega)) q3⟩
  refine ⟨?_, ?_, by omega, ⟨N, by rw [e32]; exact ht, by rw [e32]; exact tdx 1 N _ (Or.inl rfl) hd1⟩, ?_, ?_⟩
  · intro r k v hv
    have q : ¬ (r = 15 + 2 * d ∧ k = 1) := by
      rintro ⟨rfl, rfl⟩
      unfold cp_tab at hv
      rw [if_neg (by omega), if_neg (by omega), if_neg (by omega), if_neg (by omega), if_neg (by omega), if_neg (by omega), if_neg (by omega)] at hv
      cases hv
    rw [er r k q]
    exact hc r k v hv
  · intro k
    rw [gr1]
    exact hp k
  · rw [e9, e33, ei 0 9 (by omega) (by omega)]
    refine ⟨hi.1, ?_⟩
    rcases hi.2 with q | ⟨q, M, b1, b2⟩
    · exact Or.inl q
    · exact Or.inr ⟨q, M, b1, tdx 3 M _ (Or.inr rfl) b2⟩
  · intro j hj
    by_cases q : j = d
    · subst q; exact S
    · have F := hs j hj
      have c1 : ∀ k, ab_i h1 (15 + 2 * j) k = ab_i h (15 + 2 * j) k := fun k => ei _ k (by omega) (by omega)
      have c2 : ∀ k, ab_i h1 (16 + 2 * j) k = ab_i h (16 + 2 * j) k := fun k => ei _ k (by omega) (by omega)
      have c3 : ab_r h1 (15 + 2 * j) 1 = ab_r h (15 + 2 * j) 1 := er _ 1 (by omega)
      unfold shd at F ⊢
      simp only [g35 35 j (by omega) (by omega) (by omega) q, g35 36 j (by omega) (by omega) (by omega) q, g35 37 j (by omega) (by omega) (by omega) q, g35 39 j (by omega) (by omega) (by omega) q, g35 40 j (by omega) (by omega) (by omega) q, c1, c2, c3, e1]
      rcases F with F | ⟨F1, F2, r, F3, F4, F5, F6, F7⟩ | ⟨F1, F2, F3, F4, F5, n, F6, F7, F8⟩
      · exact Or.inl F
      · refine Or.inr (Or.inl ⟨F1, F2, r, F3, F4, F5, ?_, ?_⟩)
        · rw [ei r 11 (by omega) (by omega)]; exact F6
        · rw [ei r 13 (by omega) (by omega), ei r 12 (by omega) (by omega)]; exact F7
      · refine Or.inr (Or.inr ⟨F1, F2, F3, F4, F5, n, F6, F7, ?_⟩)
        intro k hk
        rw [g38 (100 * j + k) (by omega)]
        exact F8 k hk
theorem i_place (n : Nat) (hn : n ≤ 100) (i : Int32) : (0 ≤ i ∧ i ≤ nI n - 1) ↔ (0 ≤ i.toInt ∧ i.toInt < n) := by
  rw [is_in, nI_m1i (by omega), l_int0]
  omega
theorem c_place {h : ab_HP} {q n : Nat} (hn : n ≤ 100) (e : ab_i h q 3 = nI n) (i : Int32) : f_X6_hasPlace q i h = some (bI (decide (0 ≤ i.toInt ∧ i.toInt < n))) := by
  unfold f_X6_hasPlace
  rw [e]
  by_cases h1 : i < 0
  · rw [if_pos h1, decide_eq_false (by rw [n_lt, l_int0] at h1; omega), bI_f]
  · rw [if_neg h1]
    by_cases h2 : nI n ≤ i
    · rw [if_pos h2, decide_eq_false (by rw [n_le, nI_toInt (by omega)] at h2; omega), bI_f]
    · rw [if_neg h2, decide_eq_true (by rw [n_le, nI_toInt (by omega)] at h2; rw [n_lt, l_int0] at h1; omega), bI_t]
theorem c_store {h : ab_HP} {d k : Nat} (hd : d < 8) (hk : k < 100) (v : Int32) : f_X11_store (some (16 + 2 * d)) (nI k) v h = some (ab_ip h (16 + 2 * d) k v) := by
  have q : ab_in (nI k) 100 = true := in_nI (by omega) (by decide)
  have qc : (nI k).toNatClampNeg = k := nI_clamp (by omega)
  have h2 : ¬ Int32.ofNat 100 ≤ nI k := nI_ge (b := 100) (by omega) (by decide)
  unfold f_X11_store
  simp only [nI_lt0 (show k < 2 ^ 31 by omega), if_false, sh_shp hd, Option.bind_some, ab_let, Option.elim_some, Option.elim_none, h2, q, if_true, qc]
theorem c_rd {h : ab_HP} (hc : cp h) {d k n : Nat} (hd : d < 8) (hn : n ≤ 100) (e : ab_i h (15 + 2 * d) 3 = nI n) (hk : k < n) : f_X6_read (15 + 2 * d) (nI k) h = some (ab_i h (16 + 2 * d) k) := by
  have q : ab_in (nI k) 100 = true := in_nI (by omega) (by decide)
  have qc : (nI k).toNatClampNeg = k := nI_clamp (by omega)
  have h2 : ¬ Int32.ofNat 100 ≤ nI k := nI_ge (b := 100) (by omega) (by decide)
  unfold f_X6_read f_X11_at
  rw [c_place hn e, decide_eq_true (by rw [nI_toInt (by omega)]; omega), bI_t]
  simp only [Option.bind_some, ab_let, Option.elim_some, Option.elim_none, one0, if_false, nI_lt0 (show k < 2 ^ 31 by omega), sh_el hc hd, sh_shp hd, h2, q, qc, if_true]
theorem c_rdf {h : ab_HP} {q n : Nat} (hn : n ≤ 100) (e : ab_i h q 3 = nI n) {i : Int32} (hi : i.toInt < 0 ∨ (n : Int) ≤ i.toInt) : f_X6_read q i h = some (-2147483648) := by
  unfold f_X6_read
  rw [c_place hn e, decide_eq_false (by omega), bI_f]
  simp only [Option.bind_some, ab_let, Option.elim_some, Option.elim_none, if_true]
def nar (o v : Int32) : Int32 := if o = 0 then v.toInt8.toInt32 else if o = 1 then v.toInt16.toInt32 else v
theorem p_put (i j v : Int32) : callp (f_X11_put 0 i j v) (f_X12_put 31 i j v) := by
  intro h g H
  have H0 := H
  obtain ⟨hc, hp, h50, ht, hi, hs⟩ := H
  unfold f_X11_put f_X12_put f_X6_write
  rcases i_split 8 (by decide) i with ⟨d, hd, rfl⟩ | hn
  · have F := hs d hd
    have q8 : ab_in (nI d) 8 = true := in_nI hd (by decide)
    have qc : (nI d).toNatClampNeg = d := nI_clamp (by omega)
    simp only [c_shelf hc hd, m_rowA g hp hd, c_row F, Option.bind_some, ab_let, Option.elim_some, Option.elim_none, hp 4, hp 5, hp 6, mp_0, mp_1, mp_2, mp_3, mp_4, mp_5, mp_6, mp_7, mp_8, mp_16, mp_19, mp_20, mp_21, mp_22, mp_23, mp_32, mp_39, shp_2, shp_4, shp_6, shp_8, shp_9, shp_10, shp_11, shp_12, shp_13, shp_14, shp_32, shp_33, shp_34, shp_35, shp_36, shp_37, shp_38, shp_39, shp_40, shp_41, shp_42, shp_43, shp_44, shp_45, shp_46, shp_47, shp_48, shp_49, q8, qc, if_true]
    have F0 := F
    unfold w_row
    rcases F with ⟨F1, F2, F3⟩ | ⟨F1, F2, r, F3, F4, F5, F6, F7⟩ | ⟨F1, F2, F3, ⟨o, ho, F4⟩, F5, n, F6, F7, F8⟩
    · simp only [F1, if_true, k_m110, if_false]
      exact ⟨_, _, _, rfl, rfl, meq_refl h, ceq_refl g, H0⟩
    · simp only [F1, k_10, k_12, k_m120, if_false]
      exact ⟨_, _, _, rfl, rfl, meq_refl h, ceq_refl g, H0⟩
    · rw [c_place F6 (F5.trans F7)]
      simp only [F1, k_20, if_false, if_true, F7]
      rw [is_in0 j 0 _ 0 (nI n - 1) g rfl rfl, bI_if, show decide (0 ≤ j ∧ j ≤ nI n - 1) = decide (0 ≤ j.toInt ∧ j.toInt < n) from by rw [decide_eq_decide]; exact i_place n F6 j]
      simp only [Option.bind_some, bI_0, decide_eq_false_iff_not]
      by_cases hj : 0 ≤ j.toInt ∧ j.toInt < n
      · obtain ⟨k, hk, rfl⟩ := n_in hj.1 hj.2
        have e : (100 : Int32) * nI d + nI k = nI (100 * d + k) := by rw [n_lit 100, nI_mul, nI_add]
        have q2 : ab_in (nI (100 * d + k)) 800 = true := in_nI (by omega) (by decide)
        have qc2 : (nI (100 * d + k)).toNatClampNeg = 100 * d + k := nI_clamp (by omega)
        have key : ∀ w, gr (ab_ip h (16 + 2 * d) k w) (ab_ip g 38 (100 * d + k) w) := by
          intro w
          refine gr_shelf H0 hd rfl (fun r k _ => rfl) ?_ (fun r k => rfl) ?_ ?_ ?_ ?_
          · intro r b h1 h2
            rw [hi_ip, if_neg (by omega)]
          · intro r b h1 h2
            rw [hi_ip, if_neg (by omega)]
          · intro r b h1 h2 h3 h4
            rw [hi_ip, if_neg (by omega)]
          · intro b hb
            rw [hi_ip, if_neg (by omega)]
          · refine Or.inr (Or.inr ⟨?_, F2, ?_, ⟨o, ho, ?_⟩, ?_, n, F6, ?_, ?_⟩)
            · rw [hi_ip, if_neg (by omega)]; exact F1
            · rw [hi_ip, hi_ip, if_neg (by omega), if_neg (by omega)]; exact F3
            · rw [hi_ip, if_neg (by omega)]; exact F4
            · rw [hi_ip, hi_ip, if_neg (by omega), if_neg (by omega)]; exact F5
            · rw [hi_ip, if_neg (by omega)]; exact F7
            · intro b hb
              rw [hi_ip, hi_ip]
              by_cases q : b = k
              · subst q; rw [if_pos ⟨rfl, rfl⟩, if_pos ⟨rfl, rfl⟩]
              · rw [if_neg (by omega), if_neg (by omega)]; exact F8 b hb
        simp only [hj, not_true, if_false, sh_el hc hd, c_store hd (show k < 100 by omega), Option.bind_some, one0, e, q2, qc2, if_true, F3]
        by_cases o0 : ab_i g 36 d = 0
        · simp only [o0, if_true, one0, if_false]
          exact ⟨_, _, _, rfl, rfl, meq_ip (by omega), ceq_ip (by omega) (by omega), key _⟩
        · by_cases o1 : ab_i g 36 d = 1
          · simp only [o0, o1, if_true, one0, if_false]
            exact ⟨_, _, _, rfl, rfl, meq_ip (by omega), ceq_ip (by omega) (by omega), key _⟩
          · simp only [o0, o1, if_true, one0, if_false]
            exact ⟨_, _, _, rfl, rfl, meq_ip (by omega), ceq_ip (by omega) (by omega), key _⟩
      · simp only [hj, not_false_eq_true, if_true]
        exact ⟨_, _, _, rfl, rfl, meq_refl h, ceq_refl g, H0⟩
  · simp only [c_shelff hc hn, m_rowF g _ hn, Option.bind_some, ab_let, Option.elim_some, Option.elim_none, k_m10, if_false]
    exact ⟨_, _, _, rfl, rfl, meq_refl h, ceq_refl g, H0⟩
end SHW
