section EVN
theorem m_evcl (g : ab_HP) (hp : mp g) {n : Nat} (hn : n ≤ 16) (h24 : ab_i g 31 24 = nI n) : ∀ (c k : Nat), k + c = n → ∀ f, c < f → f_X12_even_l57 31 f (nI (fb_ct (fun p => !zf (ab_i g 45) p 0) k)) (nI k) g = some (nI (fb_ct (fun p => !zf (ab_i g 45) p 0) n), g)
  | 0, k, e, f + 1, _ => by
    have e : k = n := by omega
    subst e
    rw [f_X12_even_l57]
    simp only [h24]
    rw [if_pos (nI_le (Nat.le_refl _) (by omega))]
  | c + 1, k, e, f + 1, hf => by
    have q : ¬ nI n ≤ nI k := nI_ge (by omega) (by omega)
    have b2 : ab_in (nI k) 16 = true := in_nI (by omega) (by decide)
    have c2 : (nI k).toNatClampNeg = k := nI_clamp (by omega)
    have ih := m_evcl g hp hn h24 c (k + 1) (by omega) f (by omega)
    rw [fb_ct_succ] at ih
    rw [f_X12_even_l57]
    simp only [h24, q, if_false, hp 22, mp_0, mp_1, mp_2, mp_3, mp_4, mp_5, mp_6, mp_7, mp_8, mp_16, mp_19, mp_20, mp_21, mp_22, mp_23, mp_32, mp_39, shp_2, shp_4, shp_6, shp_8, shp_9, shp_10, shp_11, shp_12, shp_13, shp_14, shp_32, shp_33, shp_34, shp_35, shp_36, shp_37, shp_38, shp_39, shp_40, shp_41, shp_42, shp_43, shp_44, shp_45, shp_46, shp_47, shp_48, shp_49, Option.bind_some, ab_let, Option.elim_some, Option.elim_none, b2, c2, if_true, nI_1, show ∀ a : Int32, a + 0 = a from Int32.add_zero]
    by_cases e0 : ab_i g 45 k = 0
    · have t : (!zf (ab_i g 45) k 0) = false := by simp [zf, e0]
      rw [if_pos e0]
      simp only [t] at ih
      exact ih
    · have t : (!zf (ab_i g 45) k 0) = true := by simp [zf, e0]
      rw [if_neg e0]
      simp only [t] at ih
      exact ih
  | _, _, _, 0, h => absurd h (Nat.not_lt_zero _)
theorem m_e3 {v : ab_HP} (hp : mp v) (y : yS) (k : Int32) (K : ab_HP → Option (Int32 × ab_HP)) : ((ab_r (y_put v y) 31 0).bind fun q6 =>
    if ab_in 0 (ab_shp q6).2 = true then
    (ab_let (ab_ip (y_put v y) q6 (0 : Int32).toNatClampNeg (ab_i (y_put v y) 31 26)) fun h8 =>
    ((ab_r h8 31 0)).bind fun q10 =>
    if ab_in 1 (ab_shp q10).2 = true then
    (ab_let (ab_ip h8 q10 (1 : Int32).toNatClampNeg (ab_i h8 31 27)) fun h12 =>
    ((ab_r h12 31 0)).bind fun q14 =>
    if ab_in 2 (ab_shp q14).2 = true then
    (if ab_in 2 (ab_shp q14).2 = true then
    (ab_let (ab_ip h12 q14 (2 : Int32).toNatClampNeg ((ab_i h12 q14 (2 : Int32).toNatClampNeg) + k)) fun h17 =>
    K h17) else none) else none) else none) else none) = K (E3g v y k) := by
  have q27 : ∀ a, ab_i (ab_ip (y_put v y) 32 0 a) 31 27 = y.2.1 := fun a => by rw [hi_ip, if_neg (by omega)]; rfl
  have q2 : ∀ a c, ab_i (ab_ip (ab_ip (y_put v y) 32 0 a) 32 1 c) 32 2 = ab_i v 32 2 := fun a c => by rw [hi_ip, if_neg (by omega), hi_ip, if_neg (by omega)]; rfl
  simp only [y_r, hp 0, mp_0, mp_1, mp_2, mp_3, mp_4, mp_5, mp_6, mp_7, mp_8, mp_16, mp_19, mp_20, mp_21, mp_22, mp_23, mp_32, mp_39, Option.bind_some, shp_2, shp_4, shp_6, shp_8, shp_9, shp_10, shp_11, shp_12, shp_13, shp_14, shp_32, shp_33, shp_34, shp_35, shp_36, shp_37, shp_38, shp_39, shp_40, shp_41, shp_42, shp_43, shp_44, shp_45, shp_46, shp_47, shp_48, shp_49, in_l0, in_l1, in_l2, in_l3, in_l4, in_l5, in_l6, lit_c0, lit_c1, lit_c2, lit_c3, lit_c4, lit_c5, lit_c6, Nat.reduceLT, decide_true, if_true, ab_let, y_26, hr_ip, q27, q2]
  rfl
theorem p_even (i : Int32) : callp (f_X11_even 0 i) (f_X12_even 31 i) := by
  intro h g H
  rcases lst3 H i with ⟨e1, e2, e3, e4⟩ | ⟨e1, a, ha, e2, e3, e4⟩ | ⟨e1, e2, e4, d, n, hd, rfl, hn, es, eg, he, hl⟩
  · unfold f_X11_even f_X12_even
    simp only [e3, e4, Option.bind_some, k_m10, if_false]
    exact ⟨_, _, _, rfl, rfl, meq_refl h, ceq_refl g, H⟩
  · unfold f_X11_even f_X12_even
    simp only [e3, e4, Option.bind_some, ha, if_false]
    exact ⟨_, _, _, rfl, rfl, meq_refl h, ceq_refl g, H⟩
  · obtain ⟨w, li, w0, w1, hc, wl, wt, w4, hel, wi, wr, wll⟩ := c_take H hd hn es he e2 hl
    have A := hm_take w1 wi wr wll
    have H0 := H
    obtain ⟨hc0, hp0, h50, ⟨N, ht, hd1⟩, hi, hs⟩ := H
    obtain ⟨v, v0, B, hp, vl, v25, vy⟩ := m_tk hp0 hd hn eg hel 0
    have k2 : ab_i w 1 2 = ab_i g 32 0 := by rw [A.2.1 1 2 (by omega)]; exact hd1.1.2.1
    have k3 : ab_i w 1 3 = ab_i g 32 1 := by rw [A.2.1 1 3 (by omega)]; exact hd1.1.2.2.1
    have me := m_even v hp vl (y_of v)
    rw [y_put_of, vy, v25, B.s32] at me
    obtain ⟨z, hz⟩ : ∃ z, z = z_evens (ab_i g 32) li 0 n (ab_i g 32 0, ab_i g 32 1, 0, 0, 0, 0, 0, 0, ab_i w 9, ab_i w 10) := ⟨_, rfl⟩
    obtain ⟨y, hy⟩ : ∃ y, y = y_evens (ab_i g 32) li 0 n (ab_i g 32 0, ab_i g 32 1, 0, 0, ab_i v 45, ab_i v 43, ab_i v 44, ab_i v 46) := ⟨_, rfl⟩
    have Z : zr n n 0 z y := by
      rw [hz, hy]
      exact zr_evens _ _ _ (show n ≤ 16 by omega) (zr_0 _ _ 0 _ _ _ _ _ _ n) n (Nat.le_refl _)
    have Y : y_in n y := by
      rw [hy]
      exact y_in_evens ht 0 (fun j h1 _ => tw_bits ht j h1) ht.2.2.2.1 n (li_lt hel hl ht)
    have ce := c_even hc wl wt 0 (ab_i g 32 0, ab_i g 32 1, 0, 0, 0, 0, 0, 0, ab_i w 9, ab_i w 10)
    rw [← hz] at ce
    rw [← hy] at me
    obtain ⟨r1, r2, r3⟩ := e3_rel H0 A B Z.1.1 Z.1.2.1 Y.1 Y.2.1 1
    have q27 : ∀ a, ab_i (ab_ip (y_put v y) 32 0 a) 31 27 = y.2.1 := fun a => by rw [hi_ip, if_neg (by omega)]; rfl
    have q2 : ∀ a c, ab_i (ab_ip (ab_ip (y_put v y) 32 0 a) 32 1 c) 32 2 = ab_i v 32 2 := fun a c => by rw [hi_ip, if_neg (by omega), hi_ip, if_neg (by omega)]; rfl
    have S := m_evcl (E3g v y 1) hp (show n ≤ 16 by omega) ((e3g_o v y 1 (by decide) 24).trans vl.2.1) n 0 (by omega) 1000 (by omega)
    rw [show ab_i (E3g v y 1) 45 = y.2.2.2.2.1 from funext fun k => e3g_o v y 1 (by decide) k, show nI (fb_ct (fun p => !zf y.2.2.2.2.1 p 0) 0) = 0 from rfl, show nI 0 = 0 from rfl] at S
    have T : f_J6_bitCount_0f7a4 z.2.2.2.1 (E3h w z 1) = some (nI (fb_ct (fun p => !zf y.2.2.2.2.1 p 0) n)) := by
      rw [bc_bt (fun j h1 h2 => by rw [(Z.2.1 j h2).1, decide_eq_false (by omega), Bool.false_and])]
      rw [ct_below (show n ≤ 16 by omega) (fun j hj => (Z.2.1 j (by omega)).1)]
    have C : f_X11_even 0 (nI d) h = some (nI (fb_ct (fun p => !zf y.2.2.2.2.1 p 0) n), E3h w z 1) := by
      unfold f_X11_even
      simp only [w0, Option.bind_some, if_true, hc 0 0 1 rfl, hc 0 1 3 rfl, hc 0 2 5 rfl, hc 0 3 7 rfl, hc 0 4 11 rfl, hc 0 5 12 rfl, hc 0 6 13 rfl, hc 0 7 14 rfl, hc 1 0 2 rfl, hc 3 0 4 rfl, hc 5 0 6 rfl, hc 7 0 8 rfl, hc 7 1 9 rfl, hc 7 2 10 rfl, k2, k3, c_begin0, z_r, ce, c_end hc, hr_ip]
      rw [show ab_ip (ab_ip (ab_ip (z_put w z) 1 2 z.1) 1 3 z.2.1) 1 7 (ab_i w 1 7 + 1) = E3h w z 1 from rfl, e3h_7, z_a9, T]
      rfl
    have M : f_X12_even 31 (nI d) g = some (nI (fb_ct (fun p => !zf y.2.2.2.2.1 p 0) n), E3g v y 1) := by
      unfold f_X12_even
      rw [e4, Option.bind_some, if_pos rfl, v0, Option.bind_some, me, Option.bind_some]
      exact (m_e3 hp y 1 (f_X12_even_l57 31 1000 0 0)).trans S
    exact ⟨_, _, _, C, M, r1, r2, r3⟩
end EVN
