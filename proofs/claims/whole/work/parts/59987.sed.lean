section SED
def sdn (nx : Int32 → Int32) (z : Int32) : Nat → Int32
  | 0 => z
  | k + 1 => nx (sdn nx z k)
theorem sdn_0 (nx : Int32 → Int32) (z : Int32) : sdn nx z 0 = z := by rw [sdn]
theorem sdn_s (nx : Int32 → Int32) (z : Int32) (k : Nat) : sdn nx z (k + 1) = nx (sdn nx z k) := by rw [sdn]
def sdl (nx : Int32 → Int32) (dr : Int32 → Nat → Nat) (z : Int32) (N j : Nat) : Nat := dr (sdn nx z (j + 1)) N
theorem c_sdi {nx : Int32 → Int32} {dr : Int32 → Nat → Nat} (hnx : ∀ (z : Int32) (h : ab_HP), f_X11_nextSeed z h = some (nx z)) (hdr : ∀ (z : Int32) (b : Nat) (h : ab_HP), 0 < b → b < 2 ^ 31 → f_X11_drawn z (nI b) h = some (nI (dr z b))) (hmd : ∀ (b : Nat) (h : ab_HP), 0 < b → b < 2 ^ 31 → f_X12_drawn 31 (nI b) h = some (nI (dr (nx (ab_i h 31 40)) b), ab_ip h 31 40 (nx (ab_i h 31 40)))) (hlt : ∀ (z : Int32) (b : Nat), 0 < b → dr z b < b) {N : Nat} {s : Nat → Int32} (ht : tw N s) (h0 : 0 < N) {K : Nat} (hK : K ≤ 16) (z : Int32) (k29 : Int32 → Int32 → Int32 → Int32 → ab_HP → Option (Int32 × ab_HP)) (i1 i3 i5 : Int32) : ∀ (c k : Nat) (U : ab_HP), k + c = K → kc U N s k (sdl nx dr z N) → ∀ f, ∃ W, f_X11_playSeeds_l66 k29 0 (f + c) i1 i3 (sdn nx z k) i5 (nI K) (nI k) U = f_X11_playSeeds_l66 k29 0 f i1 i3 (sdn nx z K) i5 (nI K) (nI K) W ∧ kc W N s K (sdl nx dr z N) ∧ hm U W ∧ ∀ a b, ¬ (a = 7 ∧ b = 5) → ab_i W a b = ab_i U a b
  | 0, k, U, e, H, f => by
    have e : k = K := by omega
    subst e
    exact ⟨U, rfl, H, hm_refl U, fun _ _ _ => rfl⟩
  | c + 1, k, U, e, H, f => by
    have hN := ht.1
    have q : ¬ nI K ≤ nI k := nI_ge (by omega) (by omega)
    obtain ⟨r, W, w1, w2, w3, w4, w5⟩ := kc_add ht H (show k < 16 by omega) (hlt (sdn nx z (k + 1)) _ h0)
    obtain ⟨X, x1, x2, x3, x4⟩ := c_sdi hnx hdr hmd hlt ht h0 hK z k29 i1 i3 i5 c (k + 1) W (by omega) w3 f
    have hc := H.1
    refine ⟨X, ?_, x2, w4.trans x3, fun a b g => (x4 a b g).trans (w5 a b g)⟩
    rw [show f + (c + 1) = (f + c) + 1 from rfl, f_X11_playSeeds_l66, if_neg q]
    unfold sdl at w1
    simp only [Option.bind_some, ab_let, Option.elim_some, Option.elim_none, hc 0 0 1 rfl, hc 0 1 3 rfl, hc 0 2 5 rfl, hc 0 3 7 rfl, hc 0 4 11 rfl, hc 0 5 12 rfl, hc 0 6 13 rfl, hc 0 7 14 rfl, hc 1 0 2 rfl, hc 3 0 4 rfl, hc 5 0 6 rfl, hc 7 0 8 rfl, hc 7 1 9 rfl, hc 7 2 10 rfl, hnx, H.2.1.1.1, ht.2.1, hnx, ← sdn_s nx z, hdr (sdn nx z (k + 1)) N U h0 (show N < 2 ^ 31 by omega), w1, w2, nI_1]
    exact x1
theorem m_sdi {nx : Int32 → Int32} {dr : Int32 → Nat → Nat} (hnx : ∀ (z : Int32) (h : ab_HP), f_X11_nextSeed z h = some (nx z)) (hdr : ∀ (z : Int32) (b : Nat) (h : ab_HP), 0 < b → b < 2 ^ 31 → f_X11_drawn z (nI b) h = some (nI (dr z b))) (hmd : ∀ (b : Nat) (h : ab_HP), 0 < b → b < 2 ^ 31 → f_X12_drawn 31 (nI b) h = some (nI (dr (nx (ab_i h 31 40)) b), ab_ip h 31 40 (nx (ab_i h 31 40)))) (hlt : ∀ (z : Int32) (b : Nat), 0 < b → dr z b < b) {N : Nat} (hN : N ≤ 8) (h0 : 0 < N) {K : Nat} (hK : K ≤ 16) (z : Int32) (k51 : Int32 → Int32 → Int32 → ab_HP → Option (Int32 × ab_HP)) (i1 i3 i4 : Int32) : ∀ (c k : Nat) (V : ab_HP), k + c = K → mp V → ab_i V 31 24 = nI K → ab_i V 32 6 = nI N → ab_i V 31 40 = sdn nx z k → (∀ j, j < k → ab_i V 42 j = nI (sdl nx dr z N j)) → ∀ f, ∃ X, f_X12_seeded_l71 k51 31 (f + c) i1 i3 i4 (nI k) V = f_X12_seeded_l71 k51 31 f i1 i3 i4 (nI K) X ∧ gm V X ∧ ab_i X 31 40 = sdn nx z K ∧ (∀ j, j < K → ab_i X 42 j = nI (sdl nx dr z N j)) ∧ ∀ a b, ¬ (a = 42 ∨ (a = 31 ∧ b = 40)) → ab_i X a b = ab_i V a b
  | 0, k, V, e, hp, h24, h6, h40, hli, f => by
    have e : k = K := by omega
    subst e
    exact ⟨V, rfl, gm_refl V, h40, hli, fun _ _ _ => rfl⟩
  | c + 1, k, V, e, hp, h24, h6, h40, hli, f => by
    have q : ¬ nI K ≤ nI k := nI_ge (by omega) (by omega)
    have b2 : ab_in (nI k) 16 = true := in_nI (by omega) (by decide)
    have c2 : (nI k).toNatClampNeg = k := nI_clamp (by omega)
    have i0 : ∀ a b, ¬ (a = 42 ∨ (a = 31 ∧ b = 40)) → ab_i (ab_ip (ab_ip V 31 40 (nx (sdn nx z k))) 42 k (nI (sdl nx dr z N k))) a b = ab_i V a b := fun a b g => by rw [hi_ip, if_neg (by omega), hi_ip, if_neg (by omega)]
    have B : gm V (ab_ip (ab_ip V 31 40 (nx (sdn nx z k))) 42 k (nI (sdl nx dr z N k))) := (gm_ip (by omega)).trans (gm_ip (by omega))
    obtain ⟨X, x1, x2, x3, x4, x5⟩ := m_sdi hnx hdr hmd hlt hN h0 hK z k51 i1 i3 i4 c (k + 1) (ab_ip (ab_ip V 31 40 (nx (sdn nx z k))) 42 k (nI (sdl nx dr z N k))) (by omega) (B.mp hp) ((i0 31 24 (by omega)).trans h24) ((i0 32 6 (by omega)).trans h6) (by rw [hi_ip, if_neg (by omega), hi_ip, if_pos ⟨rfl, rfl⟩, sdn_s]) (fun j hj => by
      by_cases g : j = k
      · subst g
        rw [hi_ip, if_pos ⟨rfl, rfl⟩]
      · rw [hi_ip, if_neg (by omega), hi_ip, if_neg (by omega)]
        exact hli j (by omega)) f
    refine ⟨X, ?_, B.trans x2, x3, x4, fun a b g => (x5 a b g).trans (i0 a b g)⟩
    rw [show f + (c + 1) = (f + c) + 1 from rfl, f_X12_seeded_l71]
    have md := hmd N V h0 (show N < 2 ^ 31 by omega)
    rw [h40, ← sdn_s nx z, show dr (sdn nx z (k + 1)) N = sdl nx dr z N k from by rw [sdl], sdn_s] at md
    simp only [h24, q, if_false, Option.bind_some, ab_let, Option.elim_some, Option.elim_none, hp 0, hp 19, mp_0, mp_1, mp_2, mp_3, mp_4, mp_5, mp_6, mp_7, mp_8, mp_16, mp_19, mp_20, mp_21, mp_22, mp_23, mp_32, mp_39, shp_2, shp_4, shp_6, shp_8, shp_9, shp_10, shp_11, shp_12, shp_13, shp_14, shp_32, shp_33, shp_34, shp_35, shp_36, shp_37, shp_38, shp_39, shp_40, shp_41, shp_42, shp_43, shp_44, shp_45, shp_46, shp_47, shp_48, shp_49, in_l0, in_l1, in_l2, in_l3, in_l4, in_l5, in_l6, lit_c0, lit_c1, lit_c2, lit_c3, lit_c4, lit_c5, lit_c6, Nat.reduceLT, decide_true, if_true, h6, md, b2, c2, nI_1]
    exact x1
/-- pairs by a seed, on both sides -/
theorem p_sdo {nx : Int32 → Int32} {dr : Int32 → Nat → Nat} (hnx : ∀ (z : Int32) (h : ab_HP), f_X11_nextSeed z h = some (nx z)) (hdr : ∀ (z : Int32) (b : Nat) (h : ab_HP), 0 < b → b < 2 ^ 31 → f_X11_drawn z (nI b) h = some (nI (dr z b))) (hmd : ∀ (b : Nat) (h : ab_HP), 0 < b → b < 2 ^ 31 → f_X12_drawn 31 (nI b) h = some (nI (dr (nx (ab_i h 31 40)) b), ab_ip h 31 40 (nx (ab_i h 31 40)))) (hlt : ∀ (z : Int32) (b : Nat), 0 < b → dr z b < b) {N : Nat} {s : Nat → Int32} (ht : tw N s) (h0 : 0 < N) {n : Nat} (hn : n ≤ 30) (wh : Int32) : ∀ (c i : Nat) (U V : ab_HP) (und z : Int32), i + c = n → cp U → td U 1 N s → mp V → ab_i V 32 = s → ab_i U 7 6 = ab_i V 31 26 → ab_i U 7 7 = ab_i V 31 27 → b10 (ab_i V 31 26) → (∃ x, x ≤ 9999 ∧ ab_i V 31 27 = nI x) → und = ab_i V 31 29 → z = ab_i V 31 40 → ∀ f, c < f → ∃ W X und', f_X11_playSeeds_l29 0 f (nI n) und z (nI i) U = some (und', W) ∧ f_X12_seeded_l51 31 f (nI n) wh (nI i) V = some (if wh = 0 then ab_i W 7 6 else if wh = 1 then ab_i W 7 7 else und', X) ∧ hm U W ∧ gm V X
  | 0, i, U, V, und, z, e, hc, hd, hp, h32, h6, h7, hb, hx, hu, hz, f + 1, _ => by
    have e : i = n := by omega
    subst e
    rw [f_X11_playSeeds_l29, f_X12_seeded_l51, if_pos (nI_le (Nat.le_refl _) (by omega)), if_pos (nI_le (Nat.le_refl _) (by omega))]
    refine ⟨U, V, und, rfl, ?_, hm_refl U, gm_refl V⟩
    rw [h6, h7, hu]
    split
    · rfl
    · split <;> rfl
  | c + 1, i, U, V, und, z, e, hc, hd, hp, h32, h6, h7, hb, hx, hu, hz, f + 1, hf => by
    have hN := ht.1
    have q : ¬ nI n ≤ nI i := nI_ge (by omega) (by omega)
    obtain ⟨U1, u1, u2, u3, u4⟩ := kc_open hc ht hd (sdl nx dr (nx z) N)
    have hK : dr (nx z) 4 < 4 := hlt _ _ (by decide)
    obtain ⟨K, hKe⟩ : ∃ K, K = 1 + dr (nx z) 4 := ⟨_, rfl⟩
    obtain ⟨F, hF⟩ : ∃ F, 1000 = F + 1 + K := ⟨999 - K, by omega⟩
    obtain ⟨U2, v1, v2, v3, v4⟩ := c_sdi hnx hdr hmd hlt ht h0 (show K ≤ 16 by omega) (nx z) (f_X11_playSeeds_l29 0 f) (nI n) und (nI i) K 0 U1 (by omega) u2 (F + 1)
    rw [sdn_0] at v1
    have B1 : gm V (ab_ip (ab_ip V 31 40 (nx z)) 31 24 (nI K)) := (gm_ip (by omega)).trans (gm_ip (by omega))
    have j0 : ∀ a b, ¬ (a = 31 ∧ (b = 40 ∨ b = 24)) → ab_i (ab_ip (ab_ip V 31 40 (nx z)) 31 24 (nI K)) a b = ab_i V a b := fun a b g => by rw [hi_ip, if_neg (by omega), hi_ip, if_neg (by omega)]
    obtain ⟨V2, x1, x2, x3, x4, x5⟩ := m_sdi hnx hdr hmd hlt hN h0 (show K ≤ 16 by omega) (nx z) (f_X12_seeded_l51 31 f) (nI n) wh (nI i) K 0 (ab_ip (ab_ip V 31 40 (nx z)) 31 24 (nI K)) (by omega) (B1.mp hp) (by rw [hi_ip, if_pos ⟨rfl, rfl⟩]) (by rw [j0 32 6 (by omega), h32]; exact ht.2.1) (by rw [hi_ip, if_neg (by omega), hi_ip, if_pos ⟨rfl, rfl⟩, sdn_0]) (fun j hj => absurd hj (Nat.not_lt_zero _)) (F + 1)
    have B2 := B1.trans x2
    have hp2 : mp V2 := B2.mp hp
    have hK16 : 2 ^ K < 2 ^ 31 := Nat.pow_lt_pow_right (by decide) (by omega)
    have h24 : ab_i V2 31 24 = nI K := by rw [x5 31 24 (by omega), hi_ip, if_pos ⟨rfl, rfl⟩]
    have V2o : ∀ b, b ≠ 40 → b ≠ 24 → ab_i V2 31 b = ab_i V 31 b := fun b g1 g2 => by rw [x5 31 b (by omega), j0 31 b (by omega)]
    -- the last draw, and the pair
    obtain ⟨z3, hz3⟩ : ∃ z3, z3 = nx (sdn nx (nx z) K) := ⟨_, rfl⟩
    have U26 : ab_i U2 7 6 = ab_i V 31 26 := by rw [v4 7 6 (by omega), u4 7 6 (by omega), h6]
    have U27 : ab_i U2 7 7 = ab_i V 31 27 := by rw [v4 7 7 (by omega), u4 7 7 (by omega), h7]
    obtain ⟨hc2, hd2, hl2, hct2, h42⟩ := v2
    have li8 : ∀ j, j < K → sdl nx dr (nx z) N j < 8 := fun j _ => Nat.lt_of_lt_of_le (hlt _ _ h0) hN
    have ml3 : ml (ab_ip (ab_ip V2 31 40 z3) 31 25 (nI (dr z3 (2 ^ K)))) K (sdl nx dr (nx z) N) := by
      refine ⟨by omega, ?_, fun j hj => ⟨?_, li8 j hj⟩⟩
      · rw [hi_ip, if_neg (by omega), hi_ip, if_neg (by omega)]; exact h24
      · rw [hi_ip, if_neg (by omega), hi_ip, if_neg (by omega)]; exact x4 j hj
    obtain ⟨V3, hV3⟩ : ∃ V3, V3 = ab_ip (ab_ip V2 31 40 z3) 31 25 (nI (dr z3 (2 ^ K))) := ⟨_, rfl⟩
    have B3 : gm V2 V3 := by rw [hV3]; exact (gm_ip (by omega)).trans (gm_ip (by omega))
    have hp3 : mp V3 := B3.mp hp2
    have k3 : ∀ b, b ≠ 40 → b ≠ 25 → b ≠ 24 → ab_i V3 31 b = ab_i V 31 b := fun b g1 g2 g3 => by rw [hV3, hi_ip, if_neg (by omega), hi_ip, if_neg (by omega), V2o b g1 g3]
    have yo : y_of V3 = (ab_i V 31 26, ab_i V 31 27, ab_i V 31 28, ab_i V 31 29, ab_i V3 45, ab_i V3 43, ab_i V3 44, ab_i V3 46) := by
      unfold y_of
      rw [k3 26 (by decide) (by decide) (by decide), k3 27 (by decide) (by decide) (by decide), k3 28 (by decide) (by decide) (by decide), k3 29 (by decide) (by decide) (by decide)]
    have e25 : ab_i V3 31 25 = nI (dr z3 (2 ^ K)) := by rw [hV3, hi_ip, if_pos ⟨rfl, rfl⟩]
    have e40 : ab_i V3 31 40 = z3 := by rw [hV3, hi_ip, if_neg (by omega), hi_ip, if_pos ⟨rfl, rfl⟩]
    rw [← hV3] at ml3
    have s3 : ab_i V3 32 = s := by rw [B3.s32, B2.s32, h32]
    have vp := m_pl hp3 (gm_refl V3) ml3 e25 yo
    rw [s3] at vp
    obtain ⟨y, y1, y2, y3⟩ := sp_zr (show K ≤ 16 by omega) s (sdl nx dr (nx z) N) (nI (dr z3 (2 ^ K))) (ab_i V 31 26) (ab_i V 31 27) (ab_i V 31 28) (ab_i V 31 29) (ab_i V3 45) (ab_i V3 43) (ab_i V3 44) (ab_i V3 46) (ab_i U2 9) (ab_i U2 10)
    rw [y1] at vp
    have Y : y_in K y := by
      rw [y2]
      exact y_in_pair ht (fun j _ => hlt _ _ h0) _ hb hx
    have ce := c_even hc2 hl2 hct2 (nI (dr z3 (2 ^ K))) (ab_i V 31 26, ab_i V 31 27, 0, 0, 0, 0, 0, 0, ab_i U2 9, ab_i U2 10)
    have co := c_odd hc2 hl2 (z_evens s (sdl nx dr (nx z) N) (nI (dr z3 (2 ^ K))) K (ab_i V 31 26, ab_i V 31 27, 0, 0, 0, 0, 0, 0, ab_i U2 9, ab_i U2 10))
    rw [h42] at co
    generalize z_odds s (sdl nx dr (nx z) N) (s 3) K K (z_evens s (sdl nx dr (nx z) N) (nI (dr z3 (2 ^ K))) K (ab_i V 31 26, ab_i V 31 27, 0, 0, 0, 0, 0, 0, ab_i U2 9, ab_i U2 10)) = zz at co y3
    have A4 : hm U (z_put U2 zz) := (u3.trans v3).trans (hm_z U2 zz)
    have B4 : gm V (y_put V3 (ysp (ab_i V 31 28) y)) := (B2.trans B3).trans (gm_y _ _)
    have un : ∀ q, 16 ≤ q → q < 32 → bt zz.2.2.2.2.1 q = false := fun q q1 q2 => by rw [(y3.2.1 q q2).2.2.1, decide_eq_false (by omega), Bool.false_and]
    have uc : y.2.2.2.1 = ab_i V 31 29 + nI (fb_ct (bt zz.2.2.2.2.1) 16) := by
      have e : fb_ct (bt zz.2.2.2.2.1) 32 = fb_ct (bt zz.2.2.2.2.1) 16 := by
        apply ct_below (by decide)
        intro q hq
        by_cases q2 : q < 16
        · rw [decide_eq_true q2, Bool.true_and]
        · rw [decide_eq_false q2, Bool.false_and, un q (by omega) hq]
      rw [y3.1.2.2.2, e]
    obtain ⟨W, X, und', r1, r2, r3, r4⟩ := p_sdo hnx hdr hmd hlt ht h0 hn wh c (i + 1) (z_put U2 zz) (y_put V3 (ysp (ab_i V 31 28) y)) (und + nI (fb_ct (bt zz.2.2.2.2.1) 16)) z3 (by omega) (A4.cp hc) (td_hm A4 hN hd) (B4.mp hp) (by rw [B4.s32, h32]) y3.1.1 y3.1.2.1 Y.1 Y.2.1 (by rw [hu]; exact uc.symm) e40.symm f (by omega)
    refine ⟨W, X, und', ?_, ?_, A4.trans r3, B4.trans r4⟩
    · have ek : (1 : Int32) + nI (dr (nx z) 4) = nI K := by rw [n_lit 1, nI_add, hKe]
      have l66 : f_X11_playSeeds_l66 (f_X11_playSeeds_l29 0 f) 0 (F + 1) (nI n) und (sdn nx (nx z) K) (nI i) (nI K) (nI K) U2 = some (und', W) := by
        rw [f_X11_playSeeds_l66, if_pos (nI_le (Nat.le_refl _) (by omega))]
        have hc := hc2
        simp only [Option.bind_some, ab_let, Option.elim_some, Option.elim_none, hc 0 0 1 rfl, hc 0 1 3 rfl, hc 0 2 5 rfl, hc 0 3 7 rfl, hc 0 4 11 rfl, hc 0 5 12 rfl, hc 0 6 13 rfl, hc 0 7 14 rfl, hc 1 0 2 rfl, hc 3 0 4 rfl, hc 5 0 6 rfl, hc 7 0 8 rfl, hc 7 1 9 rfl, hc 7 2 10 rfl, hnx, ← hz3, U26, U27, c_begin0, z_r, shl1 (show K ≤ 16 by omega), hdr z3 (2 ^ K) _ (Nat.two_pow_pos K) hK16, ce, co, z_a10, bc_bt un, nI_1]
        exact r1
      rw [f_X11_playSeeds_l29, if_neg q, hF]
      simp only [Option.bind_some, ab_let, Option.elim_some, Option.elim_none, hc 0 0 1 rfl, hc 0 1 3 rfl, hc 0 2 5 rfl, hc 0 3 7 rfl, hc 0 4 11 rfl, hc 0 5 12 rfl, hc 0 6 13 rfl, hc 0 7 14 rfl, hc 1 0 2 rfl, hc 3 0 4 rfl, hc 5 0 6 rfl, hc 7 0 8 rfl, hc 7 1 9 rfl, hc 7 2 10 rfl, u1, hnx, show (4 : Int32) = nI 4 from rfl, hdr (nx z) 4 _ (show 0 < 4 by decide) (show 4 < 2 ^ 31 by decide), ek]
      rw [show (0 : Int32) = nI 0 from rfl]
      exact v1.trans l66
    · have md := hmd 4 V (show 0 < 4 by decide) (show 4 < 2 ^ 31 by decide)
      rw [← hz] at md
      have ek : (1 : Int32) + nI (dr (nx z) 4) = nI K := by rw [n_lit 1, nI_add, hKe]
      have l71 : f_X12_seeded_l71 (f_X12_seeded_l51 31 f) 31 (F + 1) (nI n) wh (nI i) (nI K) V2 = some (if wh = 0 then ab_i W 7 6 else if wh = 1 then ab_i W 7 7 else und', X) := by
        have md2 := hmd (2 ^ K) V2 (Nat.two_pow_pos K) hK16
        rw [x3, ← hz3] at md2
        rw [f_X12_seeded_l71]
        simp only [h24]
        rw [if_pos (nI_le (Nat.le_refl _) (by omega))]
        simp only [shl1 (show K ≤ 16 by omega), md2, Option.bind_some, ab_let, Option.elim_some, Option.elim_none, ← hV3, vp, nI_1]
        exact r2
      rw [f_X12_seeded_l51, if_neg q, hF]
      simp only [show (4 : Int32) = nI 4 from rfl, md, Option.bind_some, ab_let, Option.elim_some, Option.elim_none, ek]
      rw [show (0 : Int32) = nI 0 from rfl]
      exact x1.trans l71
  | _, _, _, _, _, _, _, _, _, _, _, _, _, _, _, _, _, 0, h => absurd h (Nat.not_lt_zero _)
theorem c_next (z : Int32) (h : ab_HP) : f_X11_nextSeed z h = some (nxs z) := by rw [f_X11_nextSeed, nxs]
theorem p_seeded (i j k : Int32) : callp (f_X11_seeded 0 i j k) (f_X12_seeded 31 i j k) := by
  intro h g H
  have H0 := H
  obtain ⟨hc, hp, h50, ⟨N, ht, hd⟩, hi, hs⟩ := H
  have hN := ht.1
  unfold f_X11_seeded f_X12_seeded
  simp only [is_1_30, is_0_2, bI_if, Option.bind_some, ab_let, Option.elim_some, Option.elim_none, bI_0]
  by_cases a : 1 ≤ i ∧ i ≤ 30
  rotate_left
  · simp only [decide_eq_false a, if_true]
    refine ⟨-1, h, g, ?_, rfl, meq_refl h, ceq_refl g, H0⟩
    by_cases q : i < 1
    · rw [if_pos q]
    · rw [if_neg q, if_pos]
      rw [n_lt] at q
      rw [n_lt]
      rw [n_le, n_le] at a
      omega
  · have a1 : ¬ i < 1 := by rw [n_lt]; have := a.1; rw [n_le] at this; omega
    have a2 : ¬ 30 < i := by rw [n_lt]; have := a.2; rw [n_le] at this; omega
    simp only [decide_eq_true a, a1, a2, if_false, Bool.true_eq_false]
    by_cases b : 0 ≤ k ∧ k ≤ 2
    rotate_left
    · simp only [decide_eq_false b, if_true]
      refine ⟨-1, h, g, ?_, rfl, meq_refl h, ceq_refl g, H0⟩
      by_cases q : k < 0
      · rw [if_pos q]
      · rw [if_neg q, if_neg]
        rw [n_lt] at q
        rw [n_le]
        rw [n_le, n_le] at b
        omega
    · have b1 : ¬ k < 0 := by rw [n_lt]; have := b.1; rw [n_le] at this; omega
      simp only [decide_eq_true b, Bool.true_eq_false, if_false]
      simp only [b1, b.2, if_false, if_true, Option.bind_some, hc 0 0 1 rfl, hc 0 1 3 rfl, hc 0 2 5 rfl, hc 0 3 7 rfl, hc 0 4 11 rfl, hc 0 5 12 rfl, hc 0 6 13 rfl, hc 0 7 14 rfl, hc 1 0 2 rfl, hc 3 0 4 rfl, hc 5 0 6 rfl, hc 7 0 8 rfl, hc 7 1 9 rfl, hc 7 2 10 rfl, hp 0, mp_0, mp_1, mp_2, mp_3, mp_4, mp_5, mp_6, mp_7, mp_8, mp_16, mp_19, mp_20, mp_21, mp_22, mp_23, mp_32, mp_39, shp_2, shp_4, shp_6, shp_8, shp_9, shp_10, shp_11, shp_12, shp_13, shp_14, shp_32, shp_33, shp_34, shp_35, shp_36, shp_37, shp_38, shp_39, shp_40, shp_41, shp_42, shp_43, shp_44, shp_45, shp_46, shp_47, shp_48, shp_49, in_l0, in_l1, in_l2, in_l3, in_l4, in_l5, in_l6, lit_c0, lit_c1, lit_c2, lit_c3, lit_c4, lit_c5, lit_c6, Nat.reduceLT, decide_true, hd.1.1]
      by_cases z0 : ab_i g 32 6 = 0
      · rw [if_pos z0, if_pos z0]
        exact ⟨_, _, _, rfl, rfl, meq_refl h, ceq_refl g, H0⟩
      · rw [if_neg z0, if_neg z0]
        have h0 : 0 < N := by
          rcases Nat.eq_zero_or_pos N with q | q
          · subst q; exact absurd ht.2.1 z0
          · exact q
        obtain ⟨n, hn, rfl⟩ : ∃ n, n < 31 ∧ i = nI n := n_in (by have := a.1; rw [n_le] at this; have e : (1 : Int32).toInt = 1 := rfl; omega) (by have := a.2; rw [n_le] at this; have e : (30 : Int32).toInt = 30 := rfl; omega)
        unfold f_X11_playSeeds f_X12_begins
        simp only [hc 0 0 1 rfl, hc 0 1 3 rfl, hc 0 2 5 rfl, hc 0 3 7 rfl, hc 0 4 11 rfl, hc 0 5 12 rfl, hc 0 6 13 rfl, hc 0 7 14 rfl, hc 1 0 2 rfl, hc 3 0 4 rfl, hc 5 0 6 rfl, hc 7 0 8 rfl, hc 7 1 9 rfl, hc 7 2 10 rfl, Option.bind_some, ab_let, Option.elim_some, Option.elim_none, hr_ip, hp 0, mp_0, mp_1, mp_2, mp_3, mp_4, mp_5, mp_6, mp_7, mp_8, mp_16, mp_19, mp_20, mp_21, mp_22, mp_23, mp_32, mp_39, shp_2, shp_4, shp_6, shp_8, shp_9, shp_10, shp_11, shp_12, shp_13, shp_14, shp_32, shp_33, shp_34, shp_35, shp_36, shp_37, shp_38, shp_39, shp_40, shp_41, shp_42, shp_43, shp_44, shp_45, shp_46, shp_47, shp_48, shp_49, in_l0, in_l1, in_l2, in_l3, in_l4, in_l5, in_l6, lit_c0, lit_c1, lit_c2, lit_c3, lit_c4, lit_c5, lit_c6, Nat.reduceLT, decide_true, if_true, hd.1.2.1, hd.1.2.2.1, c_begin0]
        obtain ⟨V, hV⟩ : ∃ V, V = ab_ip (ab_ip (ab_ip (ab_ip (ab_ip g 31 40 j) 31 26 (ab_i g 32 0)) 31 27 (ab_i g 32 1)) 31 28 0) 31 29 0 := ⟨_, rfl⟩
        have e32 : ∀ b, ab_i (ab_ip (ab_ip g 31 40 j) 31 26 (ab_i g 32 0)) 32 b = ab_i g 32 b := fun b => by rw [hi_ip, if_neg (by omega), hi_ip, if_neg (by omega)]
        have e32' : ∀ b, ab_i (ab_ip g 31 40 j) 32 b = ab_i g 32 b := fun b => by rw [hi_ip, if_neg (by omega)]
        have B : gm g V := by
          rw [hV]
          exact ((((gm_ip (by omega)).trans (gm_ip (by omega))).trans (gm_ip (by omega))).trans (gm_ip (by omega))).trans (gm_ip (by omega))
        have v26 : ab_i V 31 26 = ab_i g 32 0 := by rw [hV]; simp [hi_ip]
        have v27 : ab_i V 31 27 = ab_i g 32 1 := by rw [hV]; simp [hi_ip]
        have v29 : ab_i V 31 29 = 0 := by rw [hV]; simp [hi_ip]
        have v40 : ab_i V 31 40 = j := by rw [hV]; simp [hi_ip]
        have A := hm_z h (ab_i g 32 0, ab_i g 32 1, 0, 0, 0, 0, 0, 0, ab_i h 9, ab_i h 10)
        obtain ⟨W, X, und', r1, r2, r3, r4⟩ := p_sdo (nx := nxs) (dr := drw) c_next (fun z b h h0 h1 => c_drawn z h0 h1 h) (fun b h h0 h1 => m_drawn h0 h1 h) (fun z b h0 => drw_lt z h0) ht h0 (show n ≤ 30 by omega) k n 0 _ V 0 j (by omega) (A.cp hc) (td_hm A hN hd) (B.mp hp) B.s32 v26.symm v27.symm (by rw [v26]; exact fun j h1 _ => tw_bits ht j h1) (by rw [v27]; exact ht.2.2.2.1) v29.symm v40.symm 1000 (by omega)
        rw [show nI 0 = 0 from rfl] at r1 r2
        simp only [e32, e32', ← hV, r1, r2, Option.bind_some]
        have A2 := A.trans r3
        have B2 := B.trans r4
        have hc := A2.cp hc
        simp only [hc 0 0 1 rfl, hc 0 1 3 rfl, hc 0 2 5 rfl, hc 0 3 7 rfl, hc 0 4 11 rfl, hc 0 5 12 rfl, hc 0 6 13 rfl, hc 0 7 14 rfl, hc 1 0 2 rfl, hc 3 0 4 rfl, hc 5 0 6 rfl, hc 7 0 8 rfl, hc 7 1 9 rfl, hc 7 2 10 rfl, Option.bind_some]
        by_cases k0 : k = 0
        · simp only [k0, if_true]
          exact ⟨_, _, _, rfl, rfl, A2.meq, B2.ceq, gr_mind H0 A2 B2⟩
        · by_cases k1 : k = 1
          · simp only [k1, one0, if_true, if_false]
            exact ⟨_, _, _, rfl, rfl, A2.meq, B2.ceq, gr_mind H0 A2 B2⟩
          · simp only [k0, k1, if_false]
            exact ⟨_, _, _, rfl, rfl, A2.meq, B2.ceq, gr_mind H0 A2 B2⟩
end SED
