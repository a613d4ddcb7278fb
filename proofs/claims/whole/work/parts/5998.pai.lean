section PAI
/-- how a pair (or an even year) ends on both sides -/
def E3h (w : ab_HP) (z : zS) (k : Int32) : ab_HP := ab_ip (ab_ip (ab_ip (z_put w z) 1 2 z.1) 1 3 z.2.1) 1 7 (ab_i w 1 7 + k)
def E3g (v : ab_HP) (y : yS) (k : Int32) : ab_HP := ab_ip (ab_ip (ab_ip (y_put v y) 32 0 y.1) 32 1 y.2.1) 32 2 (ab_i v 32 2 + k)
theorem e3h_r (w : ab_HP) (z : zS) (k : Int32) (r j : Nat) : ab_r (E3h w z k) r j = ab_r w r j := rfl
theorem e3g_r (v : ab_HP) (y : yS) (k : Int32) (r j : Nat) : ab_r (E3g v y k) r j = ab_r v r j := rfl
theorem e3h_7 (w : ab_HP) (z : zS) (k : Int32) (j : Nat) : ab_i (E3h w z k) 7 j = ab_i (z_put w z) 7 j := by
  unfold E3h
  rw [hi_ip, if_neg (by omega), hi_ip, if_neg (by omega), hi_ip, if_neg (by omega)]
theorem e3g_o (v : ab_HP) (y : yS) (k : Int32) {r : Nat} (hr : r ≠ 32) (j : Nat) : ab_i (E3g v y k) r j = ab_i (y_put v y) r j := by
  unfold E3g
  rw [hi_ip, if_neg (by omega), hi_ip, if_neg (by omega), hi_ip, if_neg (by omega)]
theorem e3_rel {h g w v : ab_HP} (H : gr h g) (A : hm h w) (B : gm g v) {z : zS} {y : yS} (e1 : z.1 = y.1) (e2 : z.2.1 = y.2.1) (hb : b10 y.1) (hc : ∃ c, c ≤ 9999 ∧ y.2.1 = nI c) (k : Int32) : meq h (E3h w z k) ∧ ceq g (E3g v y k) ∧ gr (E3h w z k) (E3g v y k) := by
  have A2 := A.trans (hm_z w z)
  have B2 := B.trans (gm_y v y)
  have G := gr_mind H A2 B2
  have ey : ab_i w 1 7 = ab_i v 32 2 := by
    obtain ⟨N, ht, hd⟩ := H.2.2.2.1
    rw [A.2.1 1 7 (by omega), B.2.1 32 2 (by omega)]
    exact hd.1.2.2.2.2.2.2
  refine ⟨A2.meq.trans (((meq_ip (by omega)).trans (meq_ip (by omega))).trans (meq_ip (by omega))), B2.ceq.trans (((ceq_ip (by omega) (by omega)).trans (ceq_ip (by omega) (by omega))).trans (ceq_ip (by omega) (by omega))), ?_⟩
  unfold E3h E3g
  rw [e1, e2, ey]
  exact gr_ip3 G (in_1024 hb) hc
theorem m_stdA (g : ab_HP) (hp : mp g) {n : Nat} (hn : n ≤ 16) (h24 : ab_i g 31 24 = nI n) {F : Nat → Int32} (hF : ∀ k, ab_i g 45 k = F k) : f_X12_standing 31 g = some (nI (fb_ct (y_std F) n)) := by
  have e : ab_i g 45 = F := funext hF
  have := m_std g hp hn h24 n 0 (by omega) 1000 (by omega)
  rw [e] at this
  exact this
theorem p_pair (i j : Int32) : callp (f_X11_pair 0 i j) (f_X12_pair 31 i j) := by
  intro h g H
  unfold f_X11_pair f_X12_pair f_X11_playList
  simp only [c_nails, m_nails, Option.bind_some, ab_let, Option.elim_some, Option.elim_none, bI_0]
  rcases Bool.eq_false_or_eq_true (decide (0 ≤ j ∧ j ≤ 255)) with hb | hb
  rotate_left
  · simp only [hb, if_true, Option.bind_some, k_m10, if_false]
    rcases lst3 H i with ⟨e1, _⟩ | ⟨e1, _⟩ | ⟨e1, _⟩ <;> simp only [e1, Option.bind_some, one0, if_true, if_false] <;> exact ⟨_, _, _, rfl, rfl, meq_refl h, ceq_refl g, H⟩
  · simp only [hb, Bool.true_eq_false, if_false]
    rcases lst3 H i with ⟨e1, e2, e3, e4⟩ | ⟨e1, a, ha, e2, e3, e4⟩ | ⟨e1, e2, e4, d, n, hd, rfl, hn, es, eg, he, hl⟩
    · simp only [e1, e3, Option.bind_some, if_true, k_m10, if_false]
      exact ⟨_, _, _, rfl, rfl, meq_refl h, ceq_refl g, H⟩
    · simp only [e1, e3, e4, Option.bind_some, one0, ha, if_false]
      exact ⟨_, _, _, rfl, rfl, meq_refl h, ceq_refl g, H⟩
    · obtain ⟨w, z, v, y, w0, wp, v0, vp, Z, Y, A, B, hc, hp, w5, v24⟩ := duo H hd hn es eg he e2 hl j
      obtain ⟨r1, r2, r3⟩ := e3_rel H A B Z.1.1 Z.1.2.1 Y.1 Y.2.1 2
      have q27 : ∀ a, ab_i (ab_ip (y_put v y) 32 0 a) 31 27 = y.2.1 := fun a => by rw [hi_ip, if_neg (by omega)]; rfl
      have q2 : ∀ a c, ab_i (ab_ip (ab_ip (y_put v y) 32 0 a) 32 1 c) 32 2 = ab_i v 32 2 := fun a c => by rw [hi_ip, if_neg (by omega), hi_ip, if_neg (by omega)]; rfl
      have S := m_stdA (E3g v y 2) hp (show n ≤ 16 by omega) ((e3g_o v y 2 (by decide) 24).trans v24) (fun k => e3g_o v y 2 (by decide) k)
      have T := c_std (show n ≤ 16 by omega) Z (E3h w z 2)
      simp only [e1, e4, w0, Option.bind_some, one0, if_true, if_false, hc 0 0 1 rfl, hc 0 1 3 rfl, hc 0 2 5 rfl, hc 0 3 7 rfl, hc 0 4 11 rfl, hc 0 5 12 rfl, hc 0 6 13 rfl, hc 0 7 14 rfl, hc 1 0 2 rfl, hc 3 0 4 rfl, hc 5 0 6 rfl, hc 7 0 8 rfl, hc 7 1 9 rfl, hc 7 2 10 rfl, wp, c_end hc, v0, vp, hr_ip, z_r, f_X10_standing, ab_let, y_r, hp 0, mp_0, mp_1, mp_2, mp_3, mp_4, mp_5, mp_6, mp_7, mp_8, mp_16, mp_19, mp_20, mp_21, mp_22, mp_23, mp_32, mp_39, shp_2, shp_4, shp_6, shp_8, shp_9, shp_10, shp_11, shp_12, shp_13, shp_14, shp_32, shp_33, shp_34, shp_35, shp_36, shp_37, shp_38, shp_39, shp_40, shp_41, shp_42, shp_43, shp_44, shp_45, shp_46, shp_47, shp_48, shp_49, in_l0, in_l1, in_l2, in_l3, in_l4, in_l5, in_l6, lit_c0, lit_c1, lit_c2, lit_c3, lit_c4, lit_c5, lit_c6, Nat.reduceLT, decide_true, y_26, q27, q2]
      rw [show ab_ip (ab_ip (ab_ip (y_put v y) 32 0 y.1) 32 1 y.2.1) 32 2 (ab_i v 32 2 + 2) = E3g v y 2 from rfl, S, show ab_ip (ab_ip (ab_ip (z_put w z) 1 2 z.1) 1 3 z.2.1) 1 7 (ab_i w 1 7 + 2) = E3h w z 2 from rfl, e3h_7, e3h_7, z_a9, z_a10, T]
      exact ⟨_, _, _, rfl, rfl, r1, r2, r3⟩
end PAI
