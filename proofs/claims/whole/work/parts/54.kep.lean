section KEP
theorem i_53 : ((5 : Int32) = 3) = False := eq_false (by decide)
theorem i_73 : ((7 : Int32) = 3) = False := eq_false (by decide)
theorem i_75 : ((7 : Int32) = 5) = False := eq_false (by decide)
theorem m_care (g : ab_HP) (hp : mp g) {d : Nat} (hd : d < 8) : f_X12_careOf 31 (nI d) g = some (dc_care (t_g (ab_i g 32) d 0) (t_g (ab_i g 32) d 3) (t_g (ab_i g 32) d 4)) := by
  unfold f_X12_careOf dc_care
  simp only [m_get0 g hp hd, m_get3 g hp hd, m_get4 g hp hd, Option.bind_some]
  repeat' split
  all_goals rfl
theorem mp_ip {g : ab_HP} (hp : mp g) (r k : Nat) (v : Int32) : mp (ab_ip g r k v) := hp
theorem s_ip (g : ab_HP) {r k : Nat} {v : Int32} (h : r ≠ 32) : ab_i (ab_ip g r k v) 32 = ab_i g 32 := funext fun j => by rw [hi_ip, if_neg (by omega)]
def kp_tos (d : Nat) (k p f : Int32) : Int32 := if k = 3 then -15 else if f = 0 then -15 else dc_fail d k p f
/-- the Model's keep -/
theorem m_keep1 (g : ab_HP) (hp : mp g) {d e : Nat} (hd : d < 8) (he : e < 8) : f_X12_keep_b32 31 (nI d) 1 (nI e) g = some (0, ab_ip (ab_ip (ab_ip g 35 d 1) 39 d (dc_care (t_g (ab_i g 32) e 0) (t_g (ab_i g 32) e 3) (t_g (ab_i g 32) e 4))) 40 d (kp_tos e (t_g (ab_i g 32) e 0) (t_g (ab_i g 32) e 3) (t_g (ab_i g 32) e 4))) := by
  have q8 : ab_in (nI d) 8 = true := in_nI hd (by decide)
  have qc : (nI d).toNatClampNeg = d := nI_clamp (by omega)
  have s1 : ab_i (ab_ip g 35 d 1) 32 = ab_i g 32 := s_ip g (by decide)
  have s2 : ∀ v, ab_i (ab_ip (ab_ip g 35 d 1) 39 d v) 32 = ab_i g 32 := fun v => by rw [s_ip _ (by decide), s1]
  unfold f_X12_keep_b32
  simp only [hp 3, Option.bind_some, ab_let, Option.elim_some, Option.elim_none, mp_0, mp_1, mp_2, mp_3, mp_4, mp_5, mp_6, mp_7, mp_8, mp_16, mp_19, mp_20, mp_21, mp_22, mp_23, mp_32, mp_39, shp_2, shp_4, shp_6, shp_8, shp_9, shp_10, shp_11, shp_12, shp_13, shp_14, shp_32, shp_33, shp_34, shp_35, shp_36, shp_37, shp_38, shp_39, shp_40, shp_41, shp_42, shp_43, shp_44, shp_45, shp_46, shp_47, shp_48, shp_49, q8, qc, if_true, one0, if_false, m_get0 _ (mp_ip hp _ _ _) he, m_care _ (mp_ip hp _ _ _) he, s1, hr_ip, hp 7, hp 8, m_get4 _ (mp_ip (mp_ip hp _ _ _) _ _ _) he, m_care _ (mp_ip (mp_ip hp _ _ _) _ _ _) he, s2]
  unfold kp_tos dc_fail
  by_cases k3 : t_g (ab_i g 32) e 0 = 3
  · simp only [k3, if_true]
  · by_cases f0 : t_g (ab_i g 32) e 4 = 0
    · simp only [k3, f0, if_true, if_false]
    · by_cases k5 : t_g (ab_i g 32) e 0 = 5
      · simp only [k3, f0, k5, i_53, if_true, if_false]
      · by_cases k7 : t_g (ab_i g 32) e 0 = 7
        · simp only [k3, f0, k5, k7, i_73, i_75, if_true, if_false]
        · simp only [k3, f0, k5, k7, if_false]
theorem p_keep (i j k : Int32) : callp (f_X11_keep 0 i j k) (f_X12_keep 31 i j k) := by
  intro h g H
  have H0 := H
  obtain ⟨hc, hp, h50, ⟨N, ht, hdn⟩, hi, hs⟩ := H
  have hN := ht.1
  unfold f_X11_keep f_X12_keep
  rw [is_0_1, bI_if, m_isShelf]
  simp only [Option.bind_some, ab_let, Option.elim_some, Option.elim_none, bI_0, decide_eq_false_iff_not]
  rcases i_split 8 (by decide) i with ⟨d, hd, rfl⟩ | hn
  · have q8 : ab_in (nI d) 8 = true := in_nI hd (by decide)
    have qc : (nI d).toNatClampNeg = d := nI_clamp (by omega)
    have b : (0 ≤ (nI d).toInt ∧ (nI d).toInt < 8) := by rw [nI_toInt (by omega)]; omega
    simp only [c_shelf hc hd, Option.bind_some, ab_let, Option.elim_some, Option.elim_none, b, and_self, not_true, if_false]
    rcases i_split 2 (by decide) j with ⟨w, hw, rfl⟩ | hj
    · have e : (0 : Int32) ≤ nI w ∧ nI w ≤ 1 := ⟨nI_pos' (by omega), nI_le (b := 1) (by omega) (by decide)⟩
      simp only [nI_lt0 (show w < 2 ^ 31 by omega), e, e.2, and_self, not_true, if_false, if_true]
      rcases (by omega : w = 0 ∨ w = 1) with rfl | rfl
      · simp only [ek_0_1, if_false, f_X11_keep_b54, f_X12_keep_b32, f_X6_hold, Option.bind_some, ab_let, Option.elim_some, Option.elim_none, hp 3, mp_0, mp_1, mp_2, mp_3, mp_4, mp_5, mp_6, mp_7, mp_8, mp_16, mp_19, mp_20, mp_21, mp_22, mp_23, mp_32, mp_39, shp_2, shp_4, shp_6, shp_8, shp_9, shp_10, shp_11, shp_12, shp_13, shp_14, shp_32, shp_33, shp_34, shp_35, shp_36, shp_37, shp_38, shp_39, shp_40, shp_41, shp_42, shp_43, shp_44, shp_45, shp_46, shp_47, shp_48, shp_49, q8, qc, if_true, ek_0_0]
        refine ⟨_, _, _, rfl, rfl, ?_, ceq_ip (by omega) (by omega), ?_⟩
        · exact ((meq_rp (by omega)).trans (meq_ip (by omega))).trans (meq_ip (by omega))
        · refine gr_shelf H0 hd rfl ?_ ?_ (fun r k => rfl) ?_ ?_ ?_ ?_
          · intro r b h1
            rw [hr_ip, hr_ip, hr_rp, if_neg h1]
          · intro r b h1 h2
            rw [hi_ip, hi_ip, hi_rp, if_neg (by omega), if_neg (by omega)]
          · intro r b h1 h2
            rw [hi_ip, if_neg (by omega)]
          · intro r b h1 h2 h3 h4
            rw [hi_ip, if_neg (by omega)]
          · intro b hb
            rw [hi_ip, if_neg (by omega)]
          · refine Or.inl ⟨?_, ?_, ?_⟩
            · rw [hi_ip, if_pos ⟨rfl, rfl⟩]; rfl
            · rw [hr_ip, hr_ip, hr_rp, if_pos ⟨rfl, rfl⟩]
            · rw [hi_ip, hi_ip, if_neg (by omega), if_pos ⟨rfl, rfl⟩]
      · simp only [ek_1_1, if_true, hc 0 0 1 rfl, hc 0 1 3 rfl, hc 0 2 5 rfl, hc 0 3 7 rfl, hc 0 4 11 rfl, hc 0 5 12 rfl, hc 0 6 13 rfl, hc 0 7 14 rfl, hc 1 0 2 rfl, hc 3 0 4 rfl, hc 5 0 6 rfl, hc 7 0 8 rfl, hc 7 1 9 rfl, hc 7 2 10 rfl, Option.bind_some, ab_let, Option.elim_some, Option.elim_none]
        rcases i_split N (by omega) k with ⟨x, hx, rfl⟩ | hk
        · obtain ⟨r, e1, e2, e3⟩ := gr_deed hc ht hdn hx
          have t13 := e3.2.2.2.2.2.2.2.2.2
          have t12 := e3.2.2.2.2.2.2.2.2.1
          have t11 := e3.2.2.2.2.2.2.2.1
          have mk := m_keep1 g hp hd (show x < 8 by omega)
          rw [show (1 : Int32) = nI 1 from rfl] at mk
          simp only [e1, Option.bind_some, ab_let, Option.elim_some, Option.elim_none, m_isDeed_t g hp ht.1 ht.2.1 hx, one0, if_false, f_X11_keep_b54, f_X6_hold, mk]
          refine ⟨_, _, _, rfl, rfl, ?_, ?_, ?_⟩
          · exact ((meq_rp (by omega)).trans (meq_ip (by omega))).trans (meq_ip (by omega))
          · exact ((ceq_ip (by omega) (by omega)).trans (ceq_ip (by omega) (by omega))).trans (ceq_ip (by omega) (by omega))
          · refine gr_shelf H0 hd rfl ?_ ?_ (fun r k => rfl) ?_ ?_ ?_ ?_
            · intro r b h1
              rw [hr_ip, hr_ip, hr_rp, if_neg h1]
            · intro r b h1 h2
              rw [hi_ip, hi_ip, hi_rp, if_neg (by omega), if_neg (by omega)]
            · intro r b h1 h2
              rw [hi_ip, hi_ip, hi_ip, if_neg (by omega), if_neg (by omega), if_neg (by omega)]
            · intro r b h1 h2 h3 h4
              rw [hi_ip, hi_ip, hi_ip, if_neg (by omega), if_neg (by omega), if_neg (by omega)]
            · intro b hb
              rw [hi_ip, hi_ip, hi_ip, if_neg (by omega), if_neg (by omega), if_neg (by omega)]
            · have e50 := e3.1
              refine Or.inr (Or.inl ⟨?_, ?_, r, ?_, e50, e2, ?_, ?_⟩)
              · rw [hi_ip, hi_ip, hi_ip, if_neg (by omega), if_neg (by omega), if_pos ⟨rfl, rfl⟩]; rfl
              · rw [hi_ip, hi_ip, if_neg (by omega), if_pos ⟨rfl, rfl⟩]
              · rw [hr_ip, hr_ip, hr_rp, if_pos ⟨rfl, rfl⟩]
              · rw [hi_ip, hi_ip, hi_rp, if_neg (by omega), if_neg (by omega), t11, hi_ip, hi_ip, if_neg (by omega), if_pos ⟨rfl, rfl⟩]
              · have a13 : ab_i (ab_ip (ab_ip (ab_rp h (15 + 2 * d) 1 (some r)) (15 + 2 * d) 2 (-1)) (15 + 2 * d) 3 0) r 13 = ab_i h r 13 := by
                  rw [hi_ip, hi_ip, hi_rp, if_neg (by omega), if_neg (by omega)]
                have a12 : ab_i (ab_ip (ab_ip (ab_rp h (15 + 2 * d) 1 (some r)) (15 + 2 * d) 2 (-1)) (15 + 2 * d) 3 0) r 12 = ab_i h r 12 := by
                  rw [hi_ip, hi_ip, hi_rp, if_neg (by omega), if_neg (by omega)]
                simp only [a13, a12, t13, t12]
                rw [hi_ip, if_pos (show 40 = 40 ∧ d = d from ⟨rfl, rfl⟩)]
                unfold kp_tos dc_can
                by_cases k3 : t_g (ab_i g 32) x 0 = 3
                · simp only [k3, if_true]
                · by_cases f0 : t_g (ab_i g 32) x 4 = 0
                  · simp only [k3, f0, if_true, if_false]
                  · simp only [k3, f0, one0, if_false]
        · simp only [gr_deedf ht hdn hk, Option.bind_some, ab_let, Option.elim_some, Option.elim_none, m_isDeed_f g hp ht.1 ht.2.1 hk, if_true]
          exact ⟨_, _, _, rfl, rfl, meq_refl h, ceq_refl g, H0⟩
    · have e : ¬ ((0 : Int32) ≤ j ∧ j ≤ 1) := by
        rw [is_in, l_int0, show (1 : Int32).toInt = 1 from rfl]; omega
      simp only [e, not_false_eq_true, if_true]
      refine ⟨-1, h, g, ?_, rfl, meq_refl h, ceq_refl g, H0⟩
      by_cases q : j < 0
      · simp only [q, if_true]
      · have q2 : ¬ j ≤ 1 := by
          rw [n_lt, l_int0] at q
          rw [n_le, show (1 : Int32).toInt = 1 from rfl]; omega
        simp only [q, q2, if_false]
  · have b : ¬ (0 ≤ i.toInt ∧ i.toInt < 8) := by omega
    simp only [c_shelff hc hn, Option.bind_some, ab_let, Option.elim_some, Option.elim_none, b, not_false_eq_true, if_true]
    exact ⟨_, _, _, rfl, rfl, meq_refl h, ceq_refl g, H0⟩
end KEP
