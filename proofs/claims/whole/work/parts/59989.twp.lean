section TWP
def tls (h g : ab_HP) (N d a : Nat) (l : Nat → Nat) : Prop := d < 8 ∧ a ≤ 8 ∧ ab_i h (15 + 2 * d) 3 = nI a ∧ ab_i g 37 d = nI a ∧ ∀ k, k < a → ab_i h (16 + 2 * d) k = nI (l k) ∧ ab_i g 38 (100 * d + k) = nI (l k) ∧ l k < N
theorem z01 : (0 : Int32) + 1 = 1 := by decide
theorem z11 : (1 : Int32) + 1 = 2 := by decide
theorem z20 : ((2 : Int32) ≤ 0) = False := eq_false (by decide)
theorem z21 : ((2 : Int32) ≤ 1) = False := eq_false (by decide)
theorem z22 : ((2 : Int32) ≤ 2) = True := eq_true (by decide)
def tnl (nl told : Int32) (i k : Nat) : Int32 := nl ||| (((told >>> (nI i &&& 31)) &&& (1 : Int32)) <<< (nI k &&& 31))
theorem tw_b {h g : ab_HP} {N : Nat} (ht : tw N (ab_i g 32)) (hp0 : mp g) (h12 : ab_i h 1 2 = ab_i g 32 0) (h13 : ab_i h 1 3 = ab_i g 32 1) {d e : Nat} (told oth wh : Int32) {k : Nat} {L Wh : Nat → Nat} {nl on : Int32} {U V : ab_HP} (hk : k ≤ 16) (T : tinv h g N (ab_i g 32) k L Wh nl on U V) (f : Nat) : ∃ n L' Wh' nl' on' U' V' z y, n ≤ 16 ∧ tinv h g N (ab_i g 32) n L' Wh' nl' on' U' V' ∧ zr n 0 0 z y ∧ f_X11_playTwo_l20 0 (f + 1) (some (15 + 2 * d)) (some (15 + 2 * e)) told oth on nl (nI 8) U = some (on', z_put U' z) ∧ f_X12_two_l82 31 (f + 1) (nI d) (nI e) told oth wh (nI 8) V = f_X12_two_l224 31 1000 wh 0 0 (y_put V' y) := by
  have T0 := T
  obtain ⟨⟨hc, hd, hl, hct, h4⟩, A, B, t4, t5, t6, t7⟩ := T
  have hp := B.mp hp0
  have vl : ml V k L := ⟨by omega, t4, fun j hj => ⟨(t5 j hj).1, Nat.lt_of_lt_of_le (t5 j hj).2.2.1 ht.1⟩⟩
  have k2 : ab_i U 1 2 = ab_i g 32 0 := by rw [A.2.1 1 2 (by omega)]; exact h12
  have k3 : ab_i U 1 3 = ab_i g 32 1 := by rw [A.2.1 1 3 (by omega)]; exact h13
  have cpl := c_play hc hl hct h4 k2 k3 nl
  have mb := m_begins hp (y_of V)
  rw [y_put_of, B.s32, show (y_of V).2.2.2.2 = (ab_i V 45, ab_i V 43, ab_i V 44, ab_i V 46) from rfl] at mb
  have vp := m_pair V hp vl (ab_i g 32 0, ab_i g 32 1, 0, 0, ab_i V 45, ab_i V 43, ab_i V 44, ab_i V 46)
  rw [B.s32, t6] at vp
  have Z := pl_zr (show k ≤ 16 by omega) (ab_i g 32) L nl (ab_i V 45) (ab_i V 43) (ab_i V 44) (ab_i V 46) (ab_i U 9) (ab_i U 10)
  refine ⟨k, L, Wh, nl, on, U, V, _, _, by omega, T0, Z, ?_, ?_⟩
  · rw [f_X11_playTwo_l20, if_pos (show (8 : Int32) ≤ nI 8 by decide)]
    simp only [hc 0 0 1 rfl, hc 0 1 3 rfl, hc 0 2 5 rfl, hc 0 3 7 rfl, hc 0 4 11 rfl, hc 0 5 12 rfl, hc 0 6 13 rfl, hc 0 7 14 rfl, hc 1 0 2 rfl, hc 3 0 4 rfl, hc 5 0 6 rfl, hc 7 0 8 rfl, hc 7 1 9 rfl, hc 7 2 10 rfl, Option.bind_some, ab_let, Option.elim_some, Option.elim_none, cpl]
  · rw [f_X12_two_l82, if_pos (show (8 : Int32) ≤ nI 8 by decide)]
    rw [mb, Option.bind_some, vp, Option.bind_some]
theorem tw_m0 {V : ab_HP} (hp : mp V) {d a i k : Nat} {nl : Int32} {x y v : Int32} {K82 : Int32 → Int32 → Int32 → Int32 → Int32 → Int32 → ab_HP → Option (Int32 × ab_HP)} {told oth wh j : Int32} {G : Nat} (hd : d < 8) (hi : i < 100) (hk : k < 16) (eg : ab_i V 37 d = nI a) (t4 : ab_i V 31 24 = nI k) (t6 : ab_i V 31 25 = nl) (ev : ab_i V 38 (100 * d + i) = v) (hx : (x = 0) = True) (hx2 : ((2 : Int32) ≤ x) = False) (hy : x + 1 = y) : f_X12_two_l92 K82 31 (G + 1) (nI d) j told oth wh (nI i) x V = if nI i < nI a then f_X12_two_l92 K82 31 G (nI d) j told oth wh (nI i) y (ab_ip (ab_ip (ab_ip (ab_ip V 42 k v) 48 k x) 31 25 (tnl nl told i k)) 31 24 (nI (k + 1))) else f_X12_two_l92 K82 31 G (nI d) j told oth wh (nI i) y V := by
  have q8d : ab_in (nI d) 8 = true := in_nI hd (by decide)
  have qcd : (nI d).toNatClampNeg = d := nI_clamp (by omega)
  have a1 : (100 : Int32) * nI d + nI i = nI (100 * d + i) := by rw [n_lit 100, nI_mul, nI_add]
  have b1 : ab_in (nI (100 * d + i)) 800 = true := in_nI (by omega) (by decide)
  have c1 : (nI (100 * d + i)).toNatClampNeg = 100 * d + i := nI_clamp (by omega)
  have b2 : ab_in (nI k) 16 = true := in_nI (by omega) (by decide)
  have c2 : (nI k).toNatClampNeg = k := nI_clamp (by omega)
  have r24a : ∀ x, ab_i (ab_ip V 42 k x) 31 24 = nI k := fun x => by rw [hi_ip, if_neg (by omega)]; exact t4
  have r24b : ∀ x y, ab_i (ab_ip (ab_ip V 42 k x) 48 k y) 31 24 = nI k := fun x y => by rw [hi_ip, if_neg (by omega)]; exact r24a x
  have r25b : ∀ x y, ab_i (ab_ip (ab_ip V 42 k x) 48 k y) 31 25 = nl := fun x y => by rw [hi_ip, if_neg (by omega), hi_ip, if_neg (by omega)]; exact t6
  have r24c : ∀ x y z, ab_i (ab_ip (ab_ip (ab_ip V 42 k x) 48 k y) 31 25 z) 31 24 = nI k := fun x y z => by rw [hi_ip, if_neg (by omega)]; exact r24b x y
  rw [f_X12_two_l92]
  simp only [hx, hx2, hy, if_true, if_false, hr_ip, hp 5, hp 6, hp 19, hp 39, mp_0, mp_1, mp_2, mp_3, mp_4, mp_5, mp_6, mp_7, mp_8, mp_16, mp_19, mp_20, mp_21, mp_22, mp_23, mp_32, mp_39, shp_2, shp_4, shp_6, shp_8, shp_9, shp_10, shp_11, shp_12, shp_13, shp_14, shp_32, shp_33, shp_34, shp_35, shp_36, shp_37, shp_38, shp_39, shp_40, shp_41, shp_42, shp_43, shp_44, shp_45, shp_46, shp_47, shp_48, shp_49, Option.bind_some, ab_let, Option.elim_some, Option.elim_none, q8d, qcd, eg, a1, b1, c1, t4, b2, c2, ev, r24a, r24b, r25b, r24c, nI_1]
  rfl
theorem tw_h1 {h g : ab_HP} {N : Nat} (ht : tw N (ab_i g 32)) (hp0 : mp g) {d a e : Nat} {l1 : Nat → Nat} (D : tls h g N d a l1) (told oth wh : Int32) {i k : Nat} {L Wh : Nat → Nat} {nl on : Int32} {U V : ab_HP} (hi8 : i < 8) (hk : k ≤ 2 * i) (T : tinv h g N (ab_i g 32) k L Wh nl on U V) (f F : Nat) : ∃ k1 L1 Wh1 nl1 on1 U1 V1, tinv h g N (ab_i g 32) k1 L1 Wh1 nl1 on1 U1 V1 ∧ k1 ≤ 2 * i + 1 ∧ f_X11_playTwo_l20 0 (f + 1) (some (15 + 2 * d)) (some (15 + 2 * e)) told oth on nl (nI i) U = f_X11_playTwo_b89 (f_X11_playTwo_l20 0 f) 0 (some (15 + 2 * d)) (some (15 + 2 * e)) told oth on1 nl1 (nI i) U1 ∧ f_X12_two_l92 (f_X12_two_l82 31 f) 31 (F + 3) (nI d) (nI e) told oth wh (nI i) 0 V = f_X12_two_l92 (f_X12_two_l82 31 f) 31 (F + 2) (nI d) (nI e) told oth wh (nI i) 1 V1 := by
  have q8 : ¬ (8 : Int32) ≤ nI i := nI_ge (b := 8) (by omega) (by decide)
  obtain ⟨hd8, ha, es, eg, el⟩ := D
  have T0 := T
  obtain ⟨⟨hc, hd, hl, hct, h4⟩, A, B, t4, t5, t6, t7⟩ := T
  have hp := B.mp hp0
  have es' : ab_i U (15 + 2 * d) 3 = nI a := by rw [A.2.1 _ _ (by omega)]; exact es
  have eg' : ab_i V 37 d = nI a := by rw [B.2.1 _ _ (by omega)]; exact eg
  have q8d : ab_in (nI d) 8 = true := in_nI hd8 (by decide)
  have qcd : (nI d).toNatClampNeg = d := nI_clamp (by omega)
  by_cases ia : i < a
  · have q : ¬ nI a ≤ nI i := nI_ge ia (by omega)
    have q' : nI i < nI a := nI_lt ia (by omega)
    obtain ⟨r, W, w1, w2, w3⟩ := tinv_add ht T0 (show k < 16 by omega) (el i ia).2.2 (show 0 < 2 by decide) (tnl nl told i k)
    rw [if_pos rfl, show nI 0 = (0 : Int32) from rfl] at w3
    refine ⟨_, _, _, _, _, W, _, w3, by omega, ?_, ?_⟩
    · have rd := c_rd hc hd8 (show a ≤ 100 by omega) es' ia
      rw [A.2.1 _ _ (by omega), (el i ia).1] at rd
      rw [f_X11_playTwo_l20, if_neg q8]
      simp only [es', q, if_false, hc 0 0 1 rfl, hc 0 1 3 rfl, hc 0 2 5 rfl, hc 0 3 7 rfl, hc 0 4 11 rfl, hc 0 5 12 rfl, hc 0 6 13 rfl, hc 0 7 14 rfl, hc 1 0 2 rfl, hc 3 0 4 rfl, hc 5 0 6 rfl, hc 7 0 8 rfl, hc 7 1 9 rfl, hc 7 2 10 rfl, Option.bind_some, ab_let, Option.elim_some, Option.elim_none, hl.2.1, rd, w1, w2]
      rfl
    · rw [tw_m0 (G := F + 2) hp hd8 (show i < 100 by omega) (show k < 16 by omega) eg' t4 t6 (show ab_i V 38 (100 * d + i) = nI (l1 i) by rw [B.2.1 _ _ (by omega)]; exact (el i ia).2.1) (eq_true rfl) z20 z01, if_pos q']
  · have q : nI a ≤ nI i := nI_le (by omega) (by omega)
    have q' : ¬ nI i < nI a := nI_nlt (by omega) (by omega)
    refine ⟨k, L, Wh, nl, on, U, V, T0, by omega, ?_, ?_⟩
    · rw [f_X11_playTwo_l20, if_neg q8]
      simp only [Option.bind_some, ab_let, Option.elim_some, Option.elim_none, es', q, if_true]
    · rw [tw_m0 (G := F + 2) hp hd8 (show i < 100 by omega) (show k < 16 by omega) eg' t4 t6 rfl (eq_true rfl) z20 z01, if_neg q']
theorem tw_h2 {h g : ab_HP} {N : Nat} (ht : tw N (ab_i g 32)) (hp0 : mp g) {d e b : Nat} {l2 : Nat → Nat} (E : tls h g N e b l2) (told oth wh : Int32) {i k1 : Nat} {L1 Wh1 : Nat → Nat} {nl1 on1 : Int32} {U1 V1 : ab_HP} (hi8 : i < 8) (hk1 : k1 ≤ 2 * i + 1) (T1 : tinv h g N (ab_i g 32) k1 L1 Wh1 nl1 on1 U1 V1) (f F : Nat) : ∃ k2 L2 Wh2 nl2 on2 U2 V2, tinv h g N (ab_i g 32) k2 L2 Wh2 nl2 on2 U2 V2 ∧ k2 ≤ 2 * (i + 1) ∧ f_X11_playTwo_b89 (f_X11_playTwo_l20 0 f) 0 (some (15 + 2 * d)) (some (15 + 2 * e)) told oth on1 nl1 (nI i) U1 = f_X11_playTwo_l20 0 f (some (15 + 2 * d)) (some (15 + 2 * e)) told oth on2 nl2 (nI (i + 1)) U2 ∧ f_X12_two_l92 (f_X12_two_l82 31 f) 31 (F + 2) (nI d) (nI e) told oth wh (nI i) 1 V1 = f_X12_two_l82 31 f (nI d) (nI e) told oth wh (nI (i + 1)) V2 := by
  obtain ⟨he8, hb, es, eg, el⟩ := E
  have T0 := T1
  obtain ⟨⟨hc, hd, hl, hct, h4⟩, A, B, t4, t5, t6, t7⟩ := T1
  have hp := B.mp hp0
  have es' : ab_i U1 (15 + 2 * e) 3 = nI b := by rw [A.2.1 _ _ (by omega)]; exact es
  have eg' : ab_i V1 37 e = nI b := by rw [B.2.1 _ _ (by omega)]; exact eg
  have q8d : ab_in (nI e) 8 = true := in_nI he8 (by decide)
  have qcd : (nI e).toNatClampNeg = e := nI_clamp (by omega)
  unfold f_X11_playTwo_b89
  rw [f_X12_two_l92]
  have lx : ∀ X, f_X12_two_l92 (f_X12_two_l82 31 f) 31 (F + 1) (nI d) (nI e) told oth wh (nI i) 2 X = f_X12_two_l82 31 f (nI d) (nI e) told oth wh (nI (i + 1)) X := by
    intro X
    rw [f_X12_two_l92]
    simp only [z22, if_true, nI_1]
  simp only [Option.bind_some, ab_let, Option.elim_some, Option.elim_none, es', z21, one0, if_false, if_true, hp 5, mp_0, mp_1, mp_2, mp_3, mp_4, mp_5, mp_6, mp_7, mp_8, mp_16, mp_19, mp_20, mp_21, mp_22, mp_23, mp_32, mp_39, shp_2, shp_4, shp_6, shp_8, shp_9, shp_10, shp_11, shp_12, shp_13, shp_14, shp_32, shp_33, shp_34, shp_35, shp_36, shp_37, shp_38, shp_39, shp_40, shp_41, shp_42, shp_43, shp_44, shp_45, shp_46, shp_47, shp_48, shp_49, q8d, qcd, eg', z11, lx, nI_1]
  by_cases ia : i < b
  · have q : ¬ nI b ≤ nI i := nI_ge ia (by omega)
    have q' : nI i < nI b := nI_lt ia (by omega)
    obtain ⟨r, W, w1, w2, w3⟩ := tinv_add ht T0 (show k1 < 16 by omega) (el i ia).2.2 (show 1 < 2 by decide) (tnl nl1 oth i k1)
    rw [if_neg (by decide), show nI 1 = (1 : Int32) from rfl] at w3
    refine ⟨_, _, _, _, _, W, _, w3, by omega, ?_, ?_⟩
    · have rd := c_rd hc he8 (show b ≤ 100 by omega) es' ia
      rw [A.2.1 _ _ (by omega), (el i ia).1] at rd
      simp only [q, if_false, hc 0 0 1 rfl, hc 0 1 3 rfl, hc 0 2 5 rfl, hc 0 3 7 rfl, hc 0 4 11 rfl, hc 0 5 12 rfl, hc 0 6 13 rfl, hc 0 7 14 rfl, hc 1 0 2 rfl, hc 3 0 4 rfl, hc 5 0 6 rfl, hc 7 0 8 rfl, hc 7 1 9 rfl, hc 7 2 10 rfl, Option.bind_some, ab_let, Option.elim_some, Option.elim_none, hl.2.1, rd, w1, w2]
      rfl
    · have a1 : (100 : Int32) * nI e + nI i = nI (100 * e + i) := by rw [n_lit 100, nI_mul, nI_add]
      have b1 : ab_in (nI (100 * e + i)) 800 = true := in_nI (by omega) (by decide)
      have c1 : (nI (100 * e + i)).toNatClampNeg = 100 * e + i := nI_clamp (by omega)
      have b2 : ab_in (nI k1) 16 = true := in_nI (by omega) (by decide)
      have c2 : (nI k1).toNatClampNeg = k1 := nI_clamp (by omega)
      have ev : ab_i V1 38 (100 * e + i) = nI (l2 i) := by rw [B.2.1 _ _ (by omega)]; exact (el i ia).2.1
      have r24a : ∀ x, ab_i (ab_ip V1 42 k1 x) 31 24 = nI k1 := fun x => by rw [hi_ip, if_neg (by omega)]; exact t4
      have r24b : ∀ x y, ab_i (ab_ip (ab_ip V1 42 k1 x) 48 k1 y) 31 24 = nI k1 := fun x y => by rw [hi_ip, if_neg (by omega)]; exact r24a x
      have r25b : ∀ x y, ab_i (ab_ip (ab_ip V1 42 k1 x) 48 k1 y) 31 25 = nl1 := fun x y => by rw [hi_ip, if_neg (by omega), hi_ip, if_neg (by omega)]; exact t6
      have r24c : ∀ x y z, ab_i (ab_ip (ab_ip (ab_ip V1 42 k1 x) 48 k1 y) 31 25 z) 31 24 = nI k1 := fun x y z => by rw [hi_ip, if_neg (by omega)]; exact r24b x y
      simp only [q', if_true, hr_ip, hp 6, hp 19, hp 39, mp_0, mp_1, mp_2, mp_3, mp_4, mp_5, mp_6, mp_7, mp_8, mp_16, mp_19, mp_20, mp_21, mp_22, mp_23, mp_32, mp_39, shp_2, shp_4, shp_6, shp_8, shp_9, shp_10, shp_11, shp_12, shp_13, shp_14, shp_32, shp_33, shp_34, shp_35, shp_36, shp_37, shp_38, shp_39, shp_40, shp_41, shp_42, shp_43, shp_44, shp_45, shp_46, shp_47, shp_48, shp_49, Option.bind_some, ab_let, Option.elim_some, Option.elim_none, a1, b1, c1, t4, b2, c2, ev, r24a, r24b, r25b, r24c, nI_1]
      rfl
  · have q : nI b ≤ nI i := nI_le (by omega) (by omega)
    have q' : ¬ nI i < nI b := nI_nlt (by omega) (by omega)
    refine ⟨k1, L1, Wh1, nl1, on1, U1, V1, T0, by omega, ?_, ?_⟩
    · simp only [q, if_true]
    · simp only [q', if_false]
theorem p_twl {h g : ab_HP} {N : Nat} (ht : tw N (ab_i g 32)) (hp0 : mp g) (h12 : ab_i h 1 2 = ab_i g 32 0) (h13 : ab_i h 1 3 = ab_i g 32 1) {d a e b : Nat} {l1 l2 : Nat → Nat} (D : tls h g N d a l1) (E : tls h g N e b l2) (told oth wh : Int32) : ∀ (c i k : Nat) (L Wh : Nat → Nat) (nl on : Int32) (U V : ab_HP), i + c = 8 → k ≤ 2 * i → tinv h g N (ab_i g 32) k L Wh nl on U V → ∀ f, c < f → ∃ n L' Wh' nl' on' U' V' z y, n ≤ 16 ∧ tinv h g N (ab_i g 32) n L' Wh' nl' on' U' V' ∧ zr n 0 0 z y ∧ f_X11_playTwo_l20 0 f (some (15 + 2 * d)) (some (15 + 2 * e)) told oth on nl (nI i) U = some (on', z_put U' z) ∧ f_X12_two_l82 31 f (nI d) (nI e) told oth wh (nI i) V = f_X12_two_l224 31 1000 wh 0 0 (y_put V' y)
  | 0, i, k, L, Wh, nl, on, U, V, e1, hk, T, f + 1, _ => by
    have e1 : i = 8 := by omega
    subst e1
    exact tw_b ht hp0 h12 h13 told oth wh (by omega) T f
  | c + 1, i, k, L, Wh, nl, on, U, V, e1, hk, T, f + 1, hf => by
    have q8 : ¬ (8 : Int32) ≤ nI i := nI_ge (b := 8) (by omega) (by decide)
    obtain ⟨F, hF⟩ : ∃ F, (1000 : Nat) = F + 3 := ⟨997, rfl⟩
    obtain ⟨k1, L1, Wh1, nl1, on1, U1, V1, T1, hk1, C1, M1⟩ := tw_h1 (e := e) ht hp0 D told oth wh (show i < 8 by omega) hk T f F
    obtain ⟨k2, L2, Wh2, nl2, on2, U2, V2, T2, hk2, C2, M2⟩ := tw_h2 (d := d) ht hp0 E told oth wh (show i < 8 by omega) hk1 T1 f F
    obtain ⟨n, L', Wh', nl', on', U', V', z, y, r1, r2, r3, r4, r5⟩ := p_twl ht hp0 h12 h13 D E told oth wh c (i + 1) k2 L2 Wh2 nl2 on2 U2 V2 (by omega) hk2 T2 f (by omega)
    refine ⟨n, L', Wh', nl', on', U', V', z, y, r1, r2, r3, ?_, ?_⟩
    · rw [C1, C2]; exact r4
    · rw [f_X12_two_l82, if_neg q8, hF, M1, M2, ← hF]; exact r5
  | _, _, _, _, _, _, _, _, _, _, _, _, 0, h => absurd h (Nat.not_lt_zero _)
end TWP
