section PSA
section
variable {U V : ab_HP} {d m p : Nat} {el : Nat → Int32}
theorem nI_injq {i j : Nat} (h : nI i = nI j) (hi : i < 2 ^ 31) (hj : j < 2 ^ 31) : i = j := by
  have e := congrArg Int32.toInt h
  rw [nI_toInt hi, nI_toInt hj] at e
  omega
/-- the Model takes a deed -/
theorem m_newd (hp0 : mp V) {N : Nat} (hN : N < 8) (e6 : ab_i V 34 6 = nI N) {kd : Nat} (hk : kd < 8) (ek : ab_i V 31 17 = nI kd) : ∃ X, f_X12_comes 31 100 V = some (1, X) ∧ mfr V X ∧ ab_i X 31 11 = ab_i V 31 11 ∧ ab_i X 34 6 = nI (N + 1) ∧ (∀ i, i ≠ 6 → i < 7 + 5 * N ∨ 7 + 5 * N + 5 ≤ i → ab_i X 34 i = ab_i V 34 i) ∧ ab_i X 34 (7 + 5 * N) = nI kd ∧ ab_i X 34 (7 + 5 * N + 1) = ab_i V 31 15 ∧ ab_i X 34 (7 + 5 * N + 2) = ab_i V 41 0 ∧ ab_i X 34 (7 + 5 * N + 3) = ab_i V 41 1 ∧ ab_i X 34 (7 + 5 * N + 4) = ab_i V 31 18 := by
  have v : (7 : Int32) + (5 : Int32) * nI N = nI (7 + 5 * N) := by rw [n_lit 7, n_lit 5, nI_mul, nI_add]
  have v0 : nI (7 + 5 * N) + 0 = nI (7 + 5 * N) := by rw [n_lit 0, nI_add]; rfl
  have v2 : nI (7 + 5 * N) + 2 = nI (7 + 5 * N + 2) := by rw [n_lit 2, nI_add]
  have v3 : nI (7 + 5 * N) + 3 = nI (7 + 5 * N + 3) := by rw [n_lit 3, nI_add]
  have v4 : nI (7 + 5 * N) + 4 = nI (7 + 5 * N + 4) := by rw [n_lit 4, nI_add]
  have i0 : ab_in (nI (7 + 5 * N)) 47 = true := in_nI (by omega) (by decide)
  have i1 : ab_in (nI (7 + 5 * N + 1)) 47 = true := in_nI (by omega) (by decide)
  have i2 : ab_in (nI (7 + 5 * N + 2)) 47 = true := in_nI (by omega) (by decide)
  have i3 : ab_in (nI (7 + 5 * N + 3)) 47 = true := in_nI (by omega) (by decide)
  have i4 : ab_in (nI (7 + 5 * N + 4)) 47 = true := in_nI (by omega) (by decide)
  have c0 : (nI (7 + 5 * N)).toNatClampNeg = 7 + 5 * N := nI_clamp (by omega)
  have c1 : (nI (7 + 5 * N + 1)).toNatClampNeg = 7 + 5 * N + 1 := nI_clamp (by omega)
  have c2 : (nI (7 + 5 * N + 2)).toNatClampNeg = 7 + 5 * N + 2 := nI_clamp (by omega)
  have c3 : (nI (7 + 5 * N + 3)).toNatClampNeg = 7 + 5 * N + 3 := nI_clamp (by omega)
  have c4 : (nI (7 + 5 * N + 4)).toNatClampNeg = 7 + 5 * N + 4 := nI_clamp (by omega)
  have n7 : ¬ 7 < nI kd := nI_nlt (a := 7) (by omega) (by decide)
  have n8 : ¬ nI N = 8 := fun x => absurd (nI_injq (j := 8) x (by omega) (by decide)) (by omega)
  have j6 : ab_in 6 47 = true := by decide
  have j0 : ab_in 0 3 = true := by decide
  have j1 : ab_in 1 3 = true := by decide
  unfold f_X12_comes ab_let
  rw [hp0 16, mp_16, Option.bind_some, shp_41, if_pos j0, if_neg (show ¬ (100 : Int32) = 99 by decide), if_pos (show (100 : Int32) = 100 from rfl), ek, if_neg n7]
  simp only [hr_ip, hp0 2, hp0 16, mp_2, mp_16, Option.bind_some, shp_34, shp_41, j6, j0, j1, if_true, lit_c6, lit_c0, lit_c1, e6, if_neg n8, v, v0, nI_1, v2, v3, v4, i0, i1, i2, i3, i4, c0, c1, c2, c3, c4]
  have A : ∀ (Z : ab_HP) (k : Nat) (w : Int32), mfr V Z → mfr V (ab_ip Z 34 k w) := fun Z k w H => H.trans mfr_ip
  refine ⟨_, rfl, A _ _ _ (A _ _ _ (A _ _ _ (A _ _ _ (A _ _ _ (A _ _ _ (mfr_refl V)))))), ?_, ?_, fun i q1 q2 => ?_, ?_, ?_, ?_, ?_, ?_⟩
  all_goals simp only [hi_ip, true_and, show ¬ (31 : Nat) = 34 by decide, show ¬ (41 : Nat) = 34 by decide, false_and, if_false, if_true]
  all_goals repeat (first | rw [if_pos (by omega)] | rw [if_neg (by omega)])
  rw [e6, nI_1]
/-- the other way: no room, or no such kind -/
theorem m_newn (hp0 : mp V) {N : Nat} (hN : N ≤ 8) (e6 : ab_i V 34 6 = nI N) {kd : Nat} (hk : kd ≤ 9) (ek : ab_i V 31 17 = nI kd) (h : ¬ (kd < 8 ∧ N < 8)) : f_X12_comes 31 100 V = some (0, V) := by
  have j6 : ab_in 6 47 = true := by decide
  have j0 : ab_in 0 3 = true := by decide
  unfold f_X12_comes
  rw [hp0 16, mp_16, Option.bind_some, shp_41, if_pos j0, if_neg (show ¬ (100 : Int32) = 99 by decide), if_pos (show (100 : Int32) = 100 from rfl), ek]
  by_cases q : kd < 8
  · have e : N = 8 := by omega
    subst e
    rw [if_neg (show ¬ 7 < nI kd from nI_nlt (a := 7) (by omega) (by decide)), hp0 2, mp_2, Option.bind_some, shp_34, if_pos j6, lit_c6, e6, if_pos (show nI 8 = (8 : Int32) from rfl)]
  · rw [if_pos (show 7 < nI kd from nI_lt (a := 7) (by omega) (by omega))]
/-- a deed -/
theorem s_deed (H : t2 U V d m el) (hp : p < 300) (hs : (bStmt el m p).1 = true) (S : svs el m p V) (k : cS el m 100 p = true) : doS U V d m p el := by
  obtain ⟨q1, q2⟩ := cS_e k
  have T := H.1
  have h50 := H.2.2.1
  have hp0 := H.2.1.1
  have HH := H
  obtain ⟨_, _, _, N, ⟨g1, g2, g3, g4, g5, g6, g7⟩, ⟨f1, f2, f3, f4, f5, f6, f7⟩, f8⟩ := H
  obtain ⟨q, e, hq, he, k1, k2, k3, k4, k5, k6, k7, k8, k9, k10, k11, k12⟩ := deed_ch k hs
  obtain ⟨s1, s2, s3, s4, s5⟩ := S.2.1 k
  rw [show p + 1 + 1 = p + 2 from rfl, hq] at s2 s3 s4 s5
  rw [he] at s4 s5
  obtain ⟨x, x1, x2, x3⟩ := cL_v k6
  have ex : nI (97 + x) - 97 = nI x := by rw [n_lit 97, nx_sub (by omega)]; congr 1; omega
  rw [x3, ex] at s3
  have vk := (cD_v k1).2.2
  have vf := (cD_v k11).2.2
  have nL : ∀ i, p + 2 ≤ i → i < q → cL el m i = true := fun i i1 i2 => nds_L el m 10 0 (p + 2) i i1 (by rw [hq]; exact i2)
  have nd1 : ¬ cD el m (p + 2) = true := by
    by_cases z : p + 2 = q
    · rw [z]; exact cS_nD (Or.inr rfl) k5
    · obtain ⟨y, y1, y2, y3⟩ := cL_v (nL (p + 2) (Nat.le_refl _) (by omega))
      intro w
      have w2 := cD_v w
      rw [y3] at w2
      exact absurd (nI_injq w2.2.1 (by omega) (by omega)) (by omega)
  have w8 := c_number (U := U) T (k := 1) (by decide) (by decide) (show p + 1 < 1000 by omega) (by rw [bNum_1]; unfold bDig; rw [if_pos rfl, if_pos k1]) (by rw [bNum_1]; unfold bDig; rw [if_pos rfl, if_pos k1]; exact nd1)
  have w7 := c_number (U := U) T (k := 1) (by decide) (by decide) (show e + 1 < 1000 by omega) (by rw [bNum_1]; unfold bDig; rw [if_pos rfl, if_pos k11]) (by rw [bNum_1]; unfold bDig; rw [if_pos rfl, if_pos k11]; exact cS_nD (Or.inl rfl) k12)
  have one : ∀ j, cD el m j = true → nvN el ((bNum el m 1 (true, j)).2 - j) j 0 = dgv el j := fun j hj => by
    rw [bNum_1]
    unfold bDig
    rw [if_pos rfl, if_pos hj, show ((true, j + 1) : rT).2 - j = 0 + 1 by show j + 1 - j = 0 + 1; omega, nvN, nvN, Nat.mul_zero, Nat.zero_add]
  rw [one _ k1] at w8
  rw [one _ k11] at w7
  have w5 := c_number (U := U) T (k := 2) (by decide) (by decide) (show q + 2 < 1000 by omega) k7 (by rw [he]; exact cS_nD (Or.inr rfl) k10)
  have w6 := c_bNum (U := U) T (k := 2) (by decide) (by decide) (r := (true, q + 2)) (show q + 2 < 1000 by omega)
  rw [rT_t k7, he, rE_t, rE_t, show nI 2 = (2 : Int32) from rfl] at w6
  rw [he] at w5
  have np := nvN_lt (el := el) (m := m) (e - (q + 2)) (q + 2) 0 (fun j j1 j2 => bNum_D k7 j j1 (by rw [he]; omega))
  have np2 : (10 : Nat) ^ (e - (q + 2)) ≤ 10 ^ 2 := Nat.pow_le_pow_right (by decide) (by omega)
  obtain ⟨pay, hpay⟩ : ∃ y, nvN el (e - (q + 2)) (q + 2) 0 = y := ⟨_, rfl⟩
  obtain ⟨kd, hkd⟩ : ∃ y, dgv el (p + 1) = y := ⟨_, rfl⟩
  obtain ⟨fg, hfg⟩ : ∃ y, dgv el (e + 1) = y := ⟨_, rfl⟩
  obtain ⟨nw, hnw⟩ : ∃ y, lts el (q - (p + 2)) (p + 2) 0 = y := ⟨_, rfl⟩
  rw [hpay] at w5 s4 np
  rw [hkd] at w8 s1 vk
  rw [hfg] at w7 s5 vf
  rw [hnw] at s2
  obtain ⟨a, a1, a2, a3⟩ := bt_nat (x := nw) (n := 10) (by decide) (fun j j1 j2 => by rw [← hnw]; exact lts_b (m := m) _ _ _ (fun i i1 i2 => nL i i1 (by omega)) (fun i i1 i2 => by unfold bt; simp) j j1 j2)
  have bn := c_bNeeds (U := U) T (r := (true, p + 2)) (show p + 2 < 1000 by omega)
  unfold bNeeds at bn
  rw [if_pos rfl, hq, rE_t, rE_t] at bn
  have e6 : ab_i U 5 1 = nI N := f1.trans g2
  obtain ⟨n1, n2⟩ := c_l16e (U := U) (p := p) (a := nw) T h50 e6 (show q < 900 by omega) x3 x2 w5 w6 w7 w8 (999 - (q - (p + 2))) vk
  have lp := c_l16 (U := U) T (nI (p + 1)) q (by omega) (q - (p + 2)) (p + 2) 0 (999 - (q - (p + 2)) + 1) (by omega) nL
  rw [show 999 - (q - (p + 2)) + 1 + (q - (p + 2)) = 1000 by omega, hnw] at lp
  have ta : f_X9_take 5 (some (15 + 2 * d)) (nI p) U = (f_X9_newDeed_l16 5 (999 - (q - (p + 2)) + 1) (some (15 + 2 * d)) (nI (p + 1)) (nI q) nw (nI q) U).bind fun w8 => (f_X9_takeDeed 5 w8.1 w8.2).bind fun w10 => some (w10.1, w10.2) := by
    unfold f_X9_take f_X9_newDeed
    rw [Option.bind_some, c_rdv T (by omega), Option.bind_some, (rdv_eq el m p (by decide)).mpr k, if_neg (by decide), if_pos rfl, nI_1, nI_1, bn, Option.bind_some, lp]
  by_cases z : kd < 8
  · obtain ⟨W, y1, ⟨y2, y3, y4, y5⟩, y6⟩ := n1 z
    have r0 : ab_r W 5 0 = some 6 := by rw [y4 5 0 (by omega)]; exact T.1 5 0 6 rfl
    have r1 : ab_i W 5 1 = nI N := by rw [y3 5 1 (by omega)]; exact e6
    have cW : cfr U W := ⟨by omega, fun r j _ j2 => y3 r j (by omega), fun r j _ j2 => y4 r j (by omega), fun r j j2 => y5 r j (by omega)⟩
    by_cases zn : N < 8
    · obtain ⟨X, b1, b2, b3, b4, b5, b6, b7, b8, b9, b10⟩ := m_newd hp0 zn g2 z s1
      have cl : f_X9_take 5 (some (15 + 2 * d)) (nI p) U = some (1, ab_ip (ab_rp W 6 N (some U.1)) 5 1 (nI (N + 1))) := by
        rw [ta, y1, Option.bind_some]
        unfold f_X9_takeDeed
        simp only [Option.elim_some, r0, Option.bind_some, shp_6, r1]
        have t1 : nI N < Int32.ofNat 8 := nI_lt (b := 8) zn (by decide)
        have t2 : ab_in (nI N) 8 = true := in_nI zn (by decide)
        have t3 : (nI N).toNatClampNeg = N := nI_clamp (by omega)
        simp only [t1, t2, t3, if_true, ab_let, Option.bind_some]
        rw [hi_rp, r1, nI_1]
      have c2 : cfr W (ab_ip (ab_rp W 6 N (some U.1)) 5 1 (nI (N + 1))) := ⟨Nat.le_refl _, fun r j j1 _ => by rw [hi_ip, if_neg (by omega), hi_rp], fun r j j1 _ => by rw [hr_ip, hr_rp, if_neg (by omega)], fun _ _ _ => rfl⟩
      have tg : ∀ dd i, dd < N → i < 5 → t_g (ab_i X 34) dd i = t_g (ab_i V 34) dd i := fun dd i d1 d2 => b5 _ (by omega) (by omega)
      have tN : t_g (ab_i X 34) N 0 = nI kd ∧ t_g (ab_i X 34) N 1 = nI a ∧ t_g (ab_i X 34) N 2 = nI x ∧ t_g (ab_i X 34) N 3 = nI pay ∧ t_g (ab_i X 34) N 4 = nI fg := ⟨b6, by rw [← a2, ← s2]; exact b7, by rw [← s3]; exact b8, by rw [← s4]; exact b9, by rw [← s5]; exact b10⟩
      refine ⟨true, _, X, cl, by rw [q2]; exact b1, cW.trans c2, b2, b3, fun _ => ⟨T.cfr (cW.trans c2) h50, HH.2.1.mfr b2, by show 50 ≤ W.1; omega, N + 1, ⟨by omega, b4, ?_, ?_, ?_, ?_, ?_⟩, ⟨?_, ?_, ?_, ?_, ?_, ?_, ?_⟩, ?_⟩⟩
      · rw [b5 0 (by decide) (by omega)]; exact g3
      · rw [b5 1 (by decide) (by omega)]; exact g4
      · rw [b5 3 (by decide) (by omega)]; exact g5
      · rw [b5 4 (by decide) (by omega)]; exact g6
      · intro dd hd
        by_cases w : dd = N
        · subst w
          obtain ⟨o0, o1, o2, o3, o4⟩ := tN
          exact ⟨kd, a, x, pay, fg, z, a1, x1, by omega, by omega, o0, o1, o2, o3, o4⟩
        · rw [tg dd 0 (by omega) (by decide), tg dd 1 (by omega) (by decide), tg dd 2 (by omega) (by decide), tg dd 3 (by omega) (by decide), tg dd 4 (by omega) (by decide)]
          exact g7 dd (by omega)
      · rw [hi_ip, if_pos ⟨rfl, rfl⟩, b4]
      · rw [hi_ip, if_neg (by omega), hi_rp, y3 5 _ (by omega), b5 0 (by decide) (by omega)]; exact f2
      · rw [hi_ip, if_neg (by omega), hi_rp, y3 5 _ (by omega), b5 1 (by decide) (by omega)]; exact f3
      · rw [hi_ip, if_neg (by omega), hi_rp, y3 5 _ (by omega), b5 3 (by decide) (by omega)]; exact f4
      · rw [hi_ip, if_neg (by omega), hi_rp, y3 5 _ (by omega), b5 4 (by decide) (by omega)]; exact f5
      · rw [hi_ip, if_neg (by omega), hi_rp, y3 5 _ (by omega), b5 5 (by decide) (by omega)]; exact f6
      · rw [hi_ip, if_neg (by omega), hi_rp, y3 5 _ (by omega), b5 2 (by decide) (by omega)]; exact f7
      · intro dd hd
        by_cases w : dd = N
        · subst w
          refine ⟨U.1, by rw [hr_ip, hr_rp, if_pos ⟨rfl, rfl⟩], by show U.1 < W.1; omega, h50, ?_⟩
          obtain ⟨o0, o1, o2, o3, o4⟩ := tN
          unfold t_cost t_back t_kept
          rw [o0, o1, o2, o3, o4, ← a2]
          simp only [hi_ip, show ¬ U.1 = 5 by omega, false_and, if_false, hi_rp]
          exact y6
        · obtain ⟨r, r1, r2, r3⟩ := f8 dd (by omega)
          refine ⟨r, by rw [hr_ip, hr_rp, if_neg (by omega), y4 6 dd (by omega)]; exact r1, by show r < W.1; omega, ?_⟩
          have r4 := r3.1
          have r5 := dk_heap (h' := ab_ip (ab_rp W 6 N (some U.1)) 5 1 (nI (N + 1))) (fun j => by rw [hi_ip, if_neg (by omega), hi_rp, y3 r j (by omega)]) r3
          unfold dk t_cost t_back t_kept at r5 ⊢
          rw [tg dd 0 (by omega) (by decide), tg dd 1 (by omega) (by decide), tg dd 2 (by omega) (by decide), tg dd 3 (by omega) (by decide), tg dd 4 (by omega) (by decide)]
          exact r5
    · have e8 : N = 8 := by omega
      subst e8
      have ml := m_newn hp0 (Nat.le_refl 8) g2 vk s1 (fun y => zn y.2)
      refine ⟨false, W, V, ?_, by rw [q2]; exact ml, cW, mfr_refl _, rfl, fun y => absurd y Bool.false_ne_true⟩
      rw [ta, y1, Option.bind_some]
      unfold f_X9_takeDeed
      simp only [Option.elim_some, r0, Option.bind_some, shp_6, r1]
      simp only [show ¬ nI 8 < Int32.ofNat 8 by decide, if_false, Option.bind_some]
      rfl
  · have ml := m_newn hp0 g1 g2 vk s1 (fun y => z y.1)
    refine ⟨false, U, V, ?_, by rw [q2]; exact ml, cfr_refl _, mfr_refl _, rfl, fun y => absurd y Bool.false_ne_true⟩
    rw [ta, n2 z, Option.bind_some]
    rfl
end
end PSA
