section PRU
def nlc (h8 : ab_HP) : Option (Int32 × ab_HP) :=
    (f_X12_readsNumber 31 2 h8).bind fun w21 =>
    if w21.1 = 0 then (some (0, w21.2))
    else ((f_X12_takes 31 32 w21.2).bind fun w24 =>
    if w24.1 = 0 then (some (0, w24.2))
    else ((f_X12_here 31 w24.2).bind fun w27 =>
    if w27 = 45 then ((f_X12_takes 31 43 w24.2).bind fun w35 =>
    if w35.1 = 0 then ((f_X12_takes 31 45 w35.2).bind fun w38 =>
    if w38.1 = 0 then (some (0, w38.2))
    else (f_X12_readsStatement_b184 31 1 w38.2))
    else (f_X12_readsStatement_b184 31 1 w35.2))
    else ((f_X12_takes 31 43 w24.2).bind fun w29 =>
    if w29.1 = 0 then ((f_X12_takes 31 45 w29.2).bind fun w32 =>
    if w32.1 = 0 then (some (0, w32.2))
    else (f_X12_readsStatement_b184 31 0 w32.2))
    else (f_X12_readsStatement_b184 31 0 w29.2))))
section
variable {V : ab_HP} {d m p : Nat} {el : Nat → Int32}
theorem m_184 (T : mtx V d m el) (h : ab_i V 31 11 = nI p) (h14 : ab_i V 31 14 = nI 1) (hp : p < 900) {i3 : Int32} (hi : i3 = 0 ∨ i3 = 1) : ∃ W, f_X12_readsStatement_b184 31 i3 V = some (bI (bSign el m 59 (bDig el m (true, p))).1, W) ∧ pfr V W ∧ ab_i W 31 11 = nI (bSign el m 59 (bDig el m (true, p))).2 ∧ ((bSign el m 59 (bDig el m (true, p))).1 = true → ab_i W 41 0 = ab_i V 41 0 ∧ ab_i W 41 1 = if i3 = 0 then nI (dgv el p) else -(nI (dgv el p))) := by
  obtain ⟨W1, a1, a2, a3, a4⟩ := m_number T h (by omega) (t := 1) (by decide) h14 (k := 1) (by decide) (by decide)
  rw [show nI 1 = (1 : Int32) from rfl] at a1
  rw [bNum_1] at a1 a3 a4
  have T1 := mtx.pfr a2 T
  have dr := bDig_r el m (true, p)
  have dr0 : ((true, p) : rT).2 = p := rfl
  unfold f_X12_readsStatement_b184
  rw [a1, Option.bind_some]
  by_cases s1 : (bDig el m (true, p)).1 = true
  rotate_left
  · have e0 : (bDig el m (true, p)).1 = false := by simpa using s1
    obtain ⟨X, x1, x2, x3, x4⟩ := m_211 T1 a3 (by omega)
    rw [e0, bI_f] at x1 ⊢
    rw [if_pos rfl]
    refine ⟨X, x1, a2.trans x2, x3, fun y => ?_⟩
    exact absurd (bSign_t el m y).1 s1
  obtain ⟨a5, a6, a7, a8⟩ := a4 s1
  have d2 : (bDig el m (true, p)).2 = p + 1 := (bDig_2 s1).2.2
  rw [d2, show p + 1 - p = 0 + 1 by omega, nvN, nvN, Nat.mul_zero, Nat.zero_add] at a6
  have b1 : bI (bDig el m (true, p)).1 = 1 := by rw [s1]; rfl
  rw [b1, if_neg one_n0]
  rcases hi with e | e
  · subst e
    rw [if_pos rfl]
    obtain ⟨X, x1, x2, x3, x4⟩ := m_211 T1 a3 (by omega)
    rw [b1] at x1
    refine ⟨X, x1, a2.trans x2, x3, fun _ => ⟨?_, ?_⟩⟩
    · rw [x4 41 0 (by omega), a8 41 0 (by omega) (by omega)]
    · rw [x4 41 1 (by omega), if_pos rfl]; exact a6
  · subst e
    have A0 : pfr W1 (ab_ip W1 41 1 (-(nI (dgv el p)))) := pfr_ip (by omega)
    obtain ⟨X, x1, x2, x3, x4⟩ := m_211 (mtx.pfr A0 T1) (r := bDig el m (true, p)) (by rw [hi_ip, if_neg (by omega)]; exact a3) (by omega)
    rw [b1] at x1
    rw [if_neg one_n0, a2.2.2.1, T.1 16, mp_16, Option.bind_some, shp_41, if_pos (by decide), if_pos (by decide), lit_c1, a6, if_neg one_n0]
    refine ⟨X, x1, (a2.trans A0).trans x2, x3, fun _ => ⟨?_, ?_⟩⟩
    · rw [x4 41 0 (by omega), hi_ip, if_neg (by omega), a8 41 0 (by omega) (by omega)]
    · rw [x4 41 1 (by omega), hi_ip, if_pos ⟨rfl, rfl⟩]
theorem m_nail (T : mtx V d m el) (h : ab_i V 31 11 = nI p) (h14 : ab_i V 31 14 = nI 0) (hp : p < 800) : ∃ W, nlc V = some (bI (bSign el m 59 (bNail el m (true, p))).1, W) ∧ pfr V W ∧ ab_i W 31 11 = nI (bSign el m 59 (bNail el m (true, p))).2 ∧ ((bSign el m 59 (bNail el m (true, p))).1 = true → ab_i W 41 0 = nI (nvN el ((bNum el m 2 (true, p)).2 - p) p 0) ∧ nvN el ((bNum el m 2 (true, p)).2 - p) p 0 < 100 ∧ ab_i W 41 1 = if cS el m 45 ((bNum el m 2 (true, p)).2 + 1) = true then -(nI (dgv el ((bNum el m 2 (true, p)).2 + 2))) else nI (dgv el ((bNum el m 2 (true, p)).2 + 2))) := by
  obtain ⟨W1, a1, a2, a3, a4⟩ := m_number T h (by omega) (t := 0) (by decide) h14 (k := 2) (by decide) (by decide)
  rw [show nI 2 = (2 : Int32) from rfl] at a1
  have T1 := mtx.pfr a2 T
  have nr := bNum_r el m (k := 2) (by decide) (true, p)
  have nr0 : ((true, p) : rT).2 = p := rfl
  unfold nlc
  rw [a1, Option.bind_some]
  by_cases s1 : (bNum el m 2 (true, p)).1 = true
  rotate_left
  · have e0 : (bNum el m 2 (true, p)).1 = false := by simpa using s1
    have e : bNail el m (true, p) = bNum el m 2 (true, p) := by
      unfold bNail
      rw [bSign_f el m 32 s1, if_neg (fun x => s1 x.1), bSign_f el m 43 s1, bDig_f el m s1]
    rw [e, bSign_f el m 59 s1, e0, bI_f]
    exact ⟨W1, if_pos rfl, a2, a3, fun x => by cases x⟩
  obtain ⟨a5, a6, a7, a8⟩ := a4 s1
  obtain ⟨e2, he2⟩ : ∃ e2, e2 = (bNum el m 2 (true, p)).2 := ⟨_, rfl⟩
  have ebn : bNum el m 2 (true, p) = (true, e2) := by rw [he2]; exact rT_t s1
  rw [← he2] at a3 a6 a7 nr ⊢
  have b1 : bI (bNum el m 2 (true, p)).1 = 1 := by rw [s1]; rfl
  obtain ⟨W2, c1, c2, c3, c4⟩ := m_takes T1 a3 (show e2 < 2000 by omega) (c := 32) (by decide)
  have T2 := mtx.pfr c2 T1
  rw [b1, if_neg one_n0, c1, Option.bind_some]
  by_cases s2 : (bSign el m 32 (true, e2)).1 = true
  rotate_left
  · have e0 : (bSign el m 32 (true, e2)).1 = false := by simpa using s2
    have e : bNail el m (true, p) = bSign el m 32 (true, e2) := by
      unfold bNail
      rw [ebn, if_neg (fun x => s2 x.1), bSign_f el m 43 s2, bDig_f el m s2]
    rw [e, bSign_f el m 59 s2, e0, bI_f]
    exact ⟨W2, if_pos rfl, a2.trans c2, c3, fun x => by cases x⟩
  have st : (bSign el m 32 (true, e2)).2 = e2 + 1 := (bSign_t el m s2).2.2.2
  have ebs : bSign el m 32 (true, e2) = (true, e2 + 1) := by rw [← st]; exact rT_t s2
  rw [st] at c3
  have b2 : bI (bSign el m 32 (true, e2)).1 = 1 := by rw [s2]; rfl
  have k14 : ab_i W2 31 14 = nI 1 := by rw [c4 31 14 (by omega)]; exact a5
  have k410 : ab_i W2 41 0 = nI (nvN el (e2 - p) p 0) := by rw [c4 41 0 (by omega)]; exact a6
  rw [b2, if_neg one_n0, m_here T2 c3 (by omega), Option.bind_some]
  have bna : bNail el m (true, p) = if cS el m 45 (e2 + 1) = true then bDig el m (true, e2 + 2) else bDig el m (bSign el m 43 (true, e2 + 1)) := by
    unfold bNail
    rw [ebn, ebs]
    by_cases x : cS el m 45 (e2 + 1) = true
    · rw [if_pos x, if_pos ⟨rfl, x⟩]
    · rw [if_neg x, if_neg (fun y => x y.2)]
  obtain ⟨W3, g1, g2, g3, g4⟩ := m_takes T2 c3 (show e2 + 1 < 2000 by omega) (c := 43) (by decide)
  have T3 := mtx.pfr g2 T2
  by_cases x : cS el m 45 (e2 + 1) = true
  · have n43 : ¬ (bSign el m 43 (true, e2 + 1)).1 = true := fun y => by
      have y2 := (bSign_t el m y).2.2.1
      have y3 := (cS_e x).2
      rw [show ((true, e2 + 1) : rT).2 = e2 + 1 from rfl, y3] at y2
      exact absurd y2 (by decide)
    have e43 : bSign el m 43 (true, e2 + 1) = (false, e2 + 1) := by
      unfold bSign at n43 ⊢
      rw [if_pos (show ((true, e2 + 1) : rT).1 = true from rfl)] at n43 ⊢
      split at n43
      · exact absurd rfl n43
      · rw [if_neg ‹_›]
    rw [e43] at g1 g3
    obtain ⟨W4, f1, f2, f3, f4⟩ := m_takes T3 g3 (show e2 + 1 < 2000 by omega) (c := 45) (by decide)
    have e45 : bSign el m 45 (true, e2 + 1) = (true, e2 + 2) := by
      unfold bSign
      rw [if_pos (show ((true, e2 + 1) : rT).1 = true from rfl), if_pos x]
    rw [e45] at f1 f3
    obtain ⟨W5, r1, r2, r3, r4⟩ := m_184 (mtx.pfr f2 T3) f3 (by rw [f4 31 14 (by omega), g4 31 14 (by omega)]; exact k14) (by omega) (i3 := 1) (Or.inr rfl)
    rw [bna, if_pos x, if_pos ((mhv_eq el m _ (by decide)).mpr x), g1, Option.bind_some, if_pos (show bI ((false, e2 + 1) : rT).1 = 0 from rfl), f1, Option.bind_some, show bI ((true, e2 + 2) : rT).1 = 1 from rfl, if_neg one_n0]
    refine ⟨W5, r1, (((a2.trans c2).trans g2).trans f2).trans r2, r3, fun y => ⟨?_, a7, ?_⟩⟩
    · rw [(r4 y).1, f4 41 0 (by omega), g4 41 0 (by omega)]; exact k410
    · rw [(r4 y).2, if_neg one_n0, if_pos x]
  · rw [bna, if_neg x, if_neg (fun y => x ((mhv_eq el m _ (by decide)).mp y)), g1, Option.bind_some]
    by_cases s3 : (bSign el m 43 (true, e2 + 1)).1 = true
    · have st3 : (bSign el m 43 (true, e2 + 1)).2 = e2 + 2 := (bSign_t el m s3).2.2.2
      have e43 : bSign el m 43 (true, e2 + 1) = (true, e2 + 2) := by rw [← st3]; exact rT_t s3
      rw [e43] at g3 ⊢
      obtain ⟨W5, r1, r2, r3, r4⟩ := m_184 T3 g3 (by rw [g4 31 14 (by omega)]; exact k14) (by omega) (i3 := 0) (Or.inl rfl)
      rw [show bI ((true, e2 + 2) : rT).1 = 1 from rfl, if_neg one_n0]
      refine ⟨W5, r1, ((a2.trans c2).trans g2).trans r2, r3, fun y => ⟨?_, a7, ?_⟩⟩
      · rw [(r4 y).1, g4 41 0 (by omega)]; exact k410
      · rw [(r4 y).2, if_pos rfl, if_neg x]
    · have e43 : bSign el m 43 (true, e2 + 1) = (false, e2 + 1) := by
        unfold bSign at s3 ⊢
        rw [if_pos (show ((true, e2 + 1) : rT).1 = true from rfl)] at s3 ⊢
        split at s3
        · exact absurd rfl s3
        · rw [if_neg ‹_›]
      rw [e43] at g3 ⊢
      obtain ⟨W4, f1, f2, f3, f4⟩ := m_takes T3 g3 (show e2 + 1 < 2000 by omega) (c := 45) (by decide)
      have e45 : bSign el m 45 (true, e2 + 1) = (false, e2 + 1) := by
        unfold bSign
        rw [if_pos (show ((true, e2 + 1) : rT).1 = true from rfl), if_neg x]
      rw [e45] at f1 f3
      rw [if_pos (show bI ((false, e2 + 1) : rT).1 = 0 from rfl), f1, Option.bind_some, if_pos (show bI ((false, e2 + 1) : rT).1 = 0 from rfl), bDig_f el m (show ¬ ((false, e2 + 1) : rT).1 = true from Bool.false_ne_true), bSign_f el m 59 (show ¬ ((false, e2 + 1) : rT).1 = true from Bool.false_ne_true)]
      exact ⟨W4, rfl, ((a2.trans c2).trans g2).trans f2, f3, fun y => absurd y Bool.false_ne_true⟩
end
end PRU
