section PSC
theorem hk_lq (a b : Nat) : ∀ (c k : Nat) (g : ab_HP) (r j : Nat), ab_l (hk a b c k g) r j = ab_l g r j
  | 0, _, _, _, _ => rfl
  | c + 1, k, g, r, j => by rw [hk, hk_lq a b c (k + 1)]; rfl
theorem ps1_b {el : Nat → Int32} {m : Nat} (hm : m ≤ 100) : ∀ (f n p : Nat), p ≤ 100 → (ps1 el m f n p).1 = false → (ps1 el m f n p).2 ≤ 200
  | 0, n, p, h, h2 => by rw [ps1] at h2; cases h2
  | f + 1, n, p, h, h2 => by
    have br := bStmt_r el m p
    rw [ps1] at h2 ⊢
    by_cases a : (bStmt el m p).1 = true
    · have b3 := br.2.2 a
      rw [if_pos a] at h2 ⊢
      by_cases b : (bStmt el m p).2 < m
      · rw [if_pos b] at h2 ⊢
        exact ps1_b hm f _ _ (by omega) h2
      · rw [if_neg b] at h2
        cases h2
    · rw [if_neg a]
      show (bStmt el m p).2 ≤ 200
      omega
/-- a draft that has become the town, on both sides -/
theorem gr_done {h g W X u : ab_HP} {N : Nat} (H : gr h g) (h1 : h.1 ≤ W.1) (wi : ∀ r k, r ≠ 5 → r < h.1 → ab_i W r k = ab_i h r k) (wr : ∀ r k, r ≠ 6 → r < h.1 → ab_r W r k = ab_r h r k) (ht : tw N (ab_i X 34)) (hd : td W 5 N (ab_i X 34)) (xi : ∀ r k, r = 33 ∨ (35 ≤ r ∧ r ≤ 40) ∨ (r = 31 ∧ k = 9) → ab_i X r k = ab_i g r k) (xr : ∀ r k, ab_r X r k = ab_r g r k) (u1 : u.1 = W.1) (ui : ∀ r k, ab_i u r k = if r = 1 ∧ 1 ≤ k ∧ k ≤ 7 then ab_i W 5 k else ab_i W r k) (ur : ∀ r k, ab_r u r k = if r = 1 + 1 ∧ k < 8 then (if k < N then ab_r W (5 + 1) k else none) else ab_r W r k) : gr u (hk 34 32 47 0 X) := by
  obtain ⟨hc, hp, h50, _, hi, hs⟩ := H
  have hN := ht.1
  have g32 : ∀ k, k < 47 → ab_i (hk 34 32 47 0 X) 32 k = ab_i X 34 k := fun k hk47 => by rw [hk_i (by decide), if_pos (by omega)]
  have gx : ∀ r k, r = 33 ∨ (35 ≤ r ∧ r ≤ 40) ∨ (r = 31 ∧ k = 9) → ab_i (hk 34 32 47 0 X) r k = ab_i g r k := fun r k q => by rw [hk_i (by decide), if_neg (by omega), xi r k q]
  refine ⟨?_, ?_, by omega, ⟨N, tw_c47 g32 ht, ?_⟩, ⟨?_, ?_⟩, ?_⟩
  · refine cp_same ?_ hc
    intro r k q1 q2 q3 q4 q5 q6
    rw [ur, if_neg (by omega), wr r k q4 (by omega)]
  · intro k
    rw [hk_r, xr]
    exact hp k
  · exact td_bec (t := 1) (by decide) (by decide) hN u1 ui ur g32 hd
  · rw [gx 31 9 (by omega), ui, if_neg (by omega), wi 0 9 (by decide) (by omega)]; exact hi.1
  · rw [gx 31 9 (by omega)]
    rcases hi.2 with q | ⟨q, M, b1, b2⟩
    · exact Or.inl q
    · refine Or.inr ⟨q, M, tw_c47 (fun k _ => gx 33 k (by omega)) b1, ?_⟩
      refine td_same b1.1 (by omega) ?_ ?_ ?_ (fun k _ => gx 33 k (by omega)) b2
      · intro k
        rw [ui, if_neg (by omega), wi 3 k (by decide) (by omega)]
      · intro k
        rw [ur, if_neg (by omega), wr (3 + 1) k (by decide) (by omega)]
      · intro r q1 q2 k
        rw [ui, if_neg (by omega), wi r k (by omega) q2]
  · intro d hd8
    refine shd_same hd8 (by omega) ?_ ?_ ?_ (hs d hd8)
    · intro r k q1 q2
      rw [ui, if_neg (by omega), wi r k (by omega) (by omega)]
    · rw [ur, if_neg (by omega), wr _ _ (by omega) (by omega)]
    · intro r k q1 q2
      exact gx r k (by omega)
theorem p_town (i : Int32) : callp (f_X11_town 0 i) (f_X12_town 31 i) := by
  intro h g H0
  have H := H0
  obtain ⟨hc, hp, h50, ⟨N0, ht0, hd0⟩, hi, hs⟩ := H
  unfold f_X11_town f_X12_town
  rcases i_split 8 (by decide) i with ⟨d, hd, rfl⟩ | hn
  rotate_left
  · rw [c_shelff hc hn, Option.bind_some, m_rowF g 0 hn, Option.bind_some, Option.elim_none, if_neg (show ¬ (-1 : Int32) = 0 by decide)]
    exact ⟨_, _, _, rfl, rfl, meq_refl h, ceq_refl g, H0⟩
  have F := hs d hd
  rw [c_shelf hc hd, Option.bind_some, Option.elim_some, c_byt F, Option.bind_some, m_rowB g hp hd, Option.bind_some]
  by_cases w : w_byt g d = 0
  rotate_left
  · rw [if_neg w, if_neg w]
    exact ⟨_, _, _, rfl, rfl, meq_refl h, ceq_refl g, H0⟩
  rw [if_pos w, if_pos w]
  have k2 : ab_i g 35 d = 2 := by
    unfold w_byt at w
    by_cases a : ab_i g 35 d = 0
    · rw [if_pos a] at w; exact absurd w (by decide)
    · rw [if_neg a] at w
      by_cases b : ab_i g 35 d = 2
      · exact b
      · rw [if_neg b] at w; exact absurd w (by decide)
  obtain ⟨n, F5, F6, F7, F8⟩ : ∃ n, ab_i h (15 + 2 * d) 3 = ab_i g 37 d ∧ n ≤ 100 ∧ ab_i g 37 d = nI n ∧ ∀ k, k < n → ab_i h (16 + 2 * d) k = ab_i g 38 (100 * d + k) := by
    rcases F with ⟨F1, _⟩ | ⟨F1, _⟩ | ⟨F1, F2, F3, F4, F5, n, F6, F7, F8⟩
    · rw [F1] at k2; exact absurd k2 (by decide)
    · rw [F1] at k2; exact absurd k2 (by decide)
    · exact ⟨n, F5, F6, F7, F8⟩
  have hN := ht0.1
  obtain ⟨u, e1, u1, ui, ur, ul⟩ := c_become (t := 5) (o := 1) (h := h) (by decide) (by decide) hN shp_6 shp_2 (hc 5 0 6 rfl) (hc 1 0 2 rfl) (hd0.1.1.trans ht0.2.1)
  obtain ⟨el, hel⟩ : ∃ el : Nat → Int32, ∀ k, el k = ab_i g 38 (100 * d + k) := ⟨_, fun _ => rfl⟩
  have cu : cp u := cp_same (fun r k q1 q2 q3 q4 q5 q6 => by rw [ur, if_neg (by omega)]) hc
  have tU : txt u d n el := ⟨cu, hd, F6, by rw [ui, if_neg (by omega), F5, F7], fun k hk => by rw [ui, if_neg (by omega), F8 k hk, hel]⟩
  have q8 : ab_in (nI d) 8 = true := in_nI hd (by decide)
  have qc : (nI d).toNatClampNeg = d := nI_clamp (by omega)
  have e100 : (100 : Int32) * nI d = nI (100 * d) := by rw [n_lit 100, nI_mul]
  obtain ⟨V0, hV⟩ : ∃ V0, ab_ip (ab_ip (ab_ip g 31 12 (nI (100 * d))) 31 13 (nI n)) 31 11 0 = V0 := ⟨_, rfl⟩
  have v0 : ∀ r k, ¬ (r = 31 ∧ (k = 11 ∨ k = 12 ∨ k = 13)) → ab_i V0 r k = ab_i g r k := fun r k q => by rw [← hV, hi_ip, if_neg (by omega), hi_ip, if_neg (by omega), hi_ip, if_neg (by omega)]
  have v11 : ab_i V0 31 11 = nI 0 := by rw [← hV, hi_ip, if_pos ⟨rfl, rfl⟩]; rfl
  have v12 : ab_i V0 31 12 = nI (100 * d) := by rw [← hV, hi_ip, if_neg (by omega), hi_ip, if_neg (by omega), hi_ip, if_pos ⟨rfl, rfl⟩]
  have v13 : ab_i V0 31 13 = nI n := by rw [← hV, hi_ip, if_neg (by omega), hi_ip, if_pos ⟨rfl, rfl⟩]
  have vr : ∀ r k, ab_r V0 r k = ab_r g r k := fun r k => by rw [← hV]; rfl
  have v1 : V0.1 = g.1 := by rw [← hV]; rfl
  have T0 : mtx V0 d n el := ⟨fun k => by rw [vr]; exact hp k, hd, F6, v12, v13, fun k hk => by rw [v0 _ _ (by omega), hel]⟩
  have B : (ab_let (ab_ip g 31 12 ((100 : Int32) * nI d)) fun h3 => ((ab_r h3 31 5)).bind fun q5 => if ab_in (nI d) (ab_shp q5).2 = true then (ab_let (ab_ip h3 31 13 (ab_i h3 q5 (nI d).toNatClampNeg)) fun h7 => ab_let (ab_ip h7 31 11 0) fun h8 => f_X12_town_l38 31 1000 0 h8) else none) = f_X12_town_l38 31 1000 (nI 0) V0 := by
    unfold ab_let
    dsimp only
    rw [hr_ip, hp 5, mp_5, Option.bind_some, shp_37, if_pos q8, qc, hi_ip, if_neg (by omega), F7, e100, hV]
    rfl
  rw [B, hc 0 2 5 rfl, Option.bind_some, hc 0 0 1 rfl, e1, Option.bind_some, cu 0 2 5 rfl, Option.bind_some]
  obtain ⟨W1, m1, m2⟩ := m_ps1 101 0 0 V0 (Nat.le_refl _) (Or.inr ⟨rfl, rfl⟩) (by decide) (by omega) T0 v11 1000 (by decide)
  have c1 := c_ps1 tU 101 0 0 (Nat.le_refl _) (Or.inr ⟨rfl, rfl⟩) (by decide) (by omega) 1000 (by decide)
  have rd : f_X9_read 5 (some (15 + 2 * d)) u = f_X9_read_l4 5 1000 (some (15 + 2 * d)) (nI 0) (nI 0) u := rfl
  have x0 : ∀ X, mfr W1 X → (∀ r k, r = 33 ∨ (35 ≤ r ∧ r ≤ 40) ∨ (r = 31 ∧ k = 9) ∨ r = 32 ∨ r < 31 ∨ 50 ≤ r → ab_i X r k = ab_i g r k) ∧ (∀ r k, ab_r X r k = ab_r g r k) ∧ X.1 = g.1 := fun X A => ⟨fun r k q => by rw [A.2.1 r k (by omega) (by omega) (by omega), m2.2.1 r k (by omega) (by omega), v0 r k (by omega)], fun r k => by rw [A.2.2.1, m2.2.2.1, vr], by rw [A.1, m2.1, v1]⟩
  have w0 : ∀ W, cfr u W → h.1 ≤ W.1 ∧ (∀ r k, r ≠ 5 → r < h.1 → ab_i W r k = ab_i h r k) ∧ (∀ r k, r ≠ 6 → r < h.1 → ab_r W r k = ab_r h r k) ∧ ∀ r k, r < h.1 → ab_l W r k = ab_l h r k := fun W A => by
    have a1 := A.1
    exact ⟨by omega, fun r k q1 q2 => by rw [A.2.1 r k q1 (by omega), ui, if_neg (by omega)], fun r k q1 q2 => by rw [A.2.2.1 r k q1 (by omega), ur, if_neg (by omega)], fun r k q => by rw [A.2.2.2 r k (by omega), ul]⟩
  -- what a fault leaves
  have flt : ∀ W X, cfr u W → mfr W1 X → meq h W ∧ ceq g X ∧ gr W X := fun W X A B => by
    obtain ⟨a1, a2, a3, a4⟩ := w0 W A
    obtain ⟨b1, b2, b3⟩ := x0 X B
    exact ⟨fun r r1 r2 k => ⟨a2 r k (by omega) (by omega), a3 r k (by omega) (by omega), a4 r k (by omega)⟩, ⟨b3, fun r q k => ⟨b1 r k (by omega), b2 r k⟩⟩, gr_fault H0 a1 a2 a3 (fun r k q => b1 r k (by omega)) b2⟩
  rw [rd, c1, m1]
  by_cases ok : (ps1 el n 101 0 0).1 = true
  rotate_left
  · have okf : (ps1 el n 101 0 0).1 = false := by simpa using ok
    have pb := ps1_b F6 101 0 0 (by decide) okf
    rw [if_neg ok, if_neg ok, Option.bind_some, if_pos (m2k (by omega)).2]
    obtain ⟨y1, y2, y3⟩ := flt u W1 (cfr_refl _) (mfr_refl _)
    exact ⟨_, _, _, rfl, rfl, y1, y2, y3⟩
  rw [if_pos ok, if_pos ok]
  obtain ⟨c, cc, ch⟩ := ps1_chn el n 101 0 0 (ps1 el n 101 0 0).2 (Or.inr ⟨rfl, rfl⟩) (by omega) (rT_t ok)
  obtain ⟨r, hr⟩ : ∃ r, (ps1 el n 101 0 0).2 = r := ⟨_, rfl⟩
  rw [hr] at cc ⊢
  have cle := chn_le el n c 0 ch
  have hp1 : mp W1 := (T0.pfr m2).1
  have l71 := m_l71 (nI r) 47 0 W1 hp1 (by omega) 1000 (by decide)
  obtain ⟨V2, hV2⟩ : ∃ V2, ab_ip (hk 32 34 47 0 W1) 31 11 0 = V2 := ⟨_, rfl⟩
  have A2 : mfr W1 V2 := by
    rw [← hV2]
    refine ⟨by rw [h1_ip, hk_1], fun a b q1 q2 q3 => ?_, fun a b => by rw [hr_ip, hk_r], fun a b => by rw [hl_ip, hk_lq]⟩
    rw [hi_ip, if_neg (by omega), hk_i (by decide), if_neg (by omega)]
  have e34 : ∀ k, k < 47 → ab_i V2 34 k = ab_i g 32 k := fun k hk47 => by
    rw [← hV2, hi_ip, if_neg (by omega), hk_i (by decide), if_pos (by omega)]
    exact (x0 W1 (mfr_refl _)).1 32 k (by omega)
  have K : t2 u V2 d n el := ⟨tU, (T0.pfr m2).mfr A2, by omega, N0, tw_c47 e34 ht0, td_bec (t := 5) (by decide) (by decide) hN u1 ui ur e34 hd0⟩
  obtain ⟨W, X, z1, z2, z3⟩ := s_all r (nI r) (by omega) (c + 1) 0 0 u V2 K ch (Nat.zero_le _) (by rw [← hV2, hi_ip, if_pos ⟨rfl, rfl⟩]; rfl) (by omega) 101 1000 (by omega) (by omega)
  have b49 : f_X9_read_b49 5 (some (15 + 2 * d)) (nI r) u = f_X9_read_l54 5 101 (some (15 + 2 * d)) (nI r) (nI 0) (nI 0) u := rfl
  have l71' : f_X12_town_l71 31 1000 (nI r) 0 W1 = f_X12_town_l103 31 1000 (nI r) V2 := l71.trans (by rw [hV2])
  rw [b49, l71']
  rcases z3 with ⟨t, z4, z5⟩ | ⟨v, v1, z4, z5⟩
  rotate_left
  · rw [z4, z5, Option.bind_some, if_pos v1]
    obtain ⟨y1, y2, y3⟩ := flt W X z1 (A2.trans z2)
    exact ⟨_, _, _, rfl, rfl, y1, y2, y3⟩
  obtain ⟨t1, t2', t3, M, t4, t5⟩ := t
  have cW := t1.1
  obtain ⟨a1, a2, a3, a4⟩ := w0 W z1
  obtain ⟨b1, b2, b3⟩ := x0 X (A2.trans z2)
  obtain ⟨u', e1', u1', ui', ur', ul'⟩ := c_become (t := 1) (o := 5) (h := W) (by decide) (by decide) t4.1 shp_2 shp_6 (cW 1 0 2 rfl) (cW 5 0 6 rfl) (t5.1.1.trans t4.2.1)
  have l154 := m_l154 (nI r) 47 0 X t2'.1 (by omega) 1000 (by decide)
  have l154' : f_X12_town_l154 31 1000 (nI r) 0 X = some (nI r, hk 34 32 47 0 X) := l154
  have rpos : ¬ nI r ≤ 0 := by rw [n_le, nI_toInt (n := r) (by omega), l_int0]; omega
  rw [z4, z5, Option.bind_some, if_neg rpos, cW 0 0 1 rfl, Option.bind_some, cW 0 2 5 rfl, e1', Option.bind_some, l154']
  refine ⟨_, _, _, rfl, rfl, ?_, ⟨by rw [hk_1, b3], fun s q k => ⟨?_, by rw [hk_r, b2]⟩⟩, gr_done H0 a1 a2 a3 t4 t5 (fun s k q => b1 s k (by omega)) b2 u1' ui' ur'⟩
  · intro s r1 r2 k
    exact ⟨by rw [ui', if_neg (by omega), a2 s k (by omega) (by omega)], by rw [ur', if_neg (by omega), a3 s k (by omega) (by omega)], by rw [ul', a4 s k (by omega)]⟩
  · rw [hk_i (by decide), if_neg (by omega), b1 s k (by omega)]
end PSC
