section PRX
/-! the second going through: what a statement does -/
def cfr (U W : ab_HP) : Prop := U.1 ≤ W.1 ∧ (∀ r k, r ≠ 5 → r < U.1 → ab_i W r k = ab_i U r k) ∧ (∀ r k, r ≠ 6 → r < U.1 → ab_r W r k = ab_r U r k) ∧ ∀ r k, r < U.1 → ab_l W r k = ab_l U r k
theorem cfr_refl (U : ab_HP) : cfr U U := ⟨Nat.le_refl _, fun _ _ _ _ => rfl, fun _ _ _ _ => rfl, fun _ _ _ => rfl⟩
theorem cfr.trans {a b c : ab_HP} (H : cfr a b) (G : cfr b c) : cfr a c := by
  have h1 := H.1
  exact ⟨by have := G.1; omega, fun r k q1 q2 => (G.2.1 r k q1 (by omega)).trans (H.2.1 r k q1 q2), fun r k q1 q2 => (G.2.2.1 r k q1 (by omega)).trans (H.2.2.1 r k q1 q2), fun r k q => (G.2.2.2 r k (by omega)).trans (H.2.2.2 r k q)⟩
theorem cfr_ip {U : ab_HP} {k : Nat} {v : Int32} : cfr U (ab_ip U 5 k v) := ⟨Nat.le_refl _, fun a b q1 q2 => by rw [hi_ip, if_neg (by omega)], fun _ _ _ _ => rfl, fun _ _ _ => rfl⟩
def mfr (V W : ab_HP) : Prop := W.1 = V.1 ∧ (∀ r k, r ≠ 41 → r ≠ 34 → ¬ (r = 31 ∧ (k = 11 ∨ k = 14 ∨ k = 15 ∨ k = 17 ∨ k = 18)) → ab_i W r k = ab_i V r k) ∧ (∀ r k, ab_r W r k = ab_r V r k) ∧ ∀ r k, ab_l W r k = ab_l V r k
theorem mfr_refl (V : ab_HP) : mfr V V := ⟨rfl, fun _ _ _ _ _ => rfl, fun _ _ => rfl, fun _ _ => rfl⟩
theorem mfr.trans {a b c : ab_HP} (H : mfr a b) (G : mfr b c) : mfr a c := ⟨G.1.trans H.1, fun r k q1 q2 q3 => (G.2.1 r k q1 q2 q3).trans (H.2.1 r k q1 q2 q3), fun r k => (G.2.2.1 r k).trans (H.2.2.1 r k), fun r k => (G.2.2.2 r k).trans (H.2.2.2 r k)⟩
theorem pfr.m {a b : ab_HP} (H : pfr a b) : mfr a b := ⟨H.1, fun r k q1 _ q3 => H.2.1 r k q1 q3, H.2.2.1, H.2.2.2⟩
theorem mfr_ip {V : ab_HP} {k : Nat} {v : Int32} : mfr V (ab_ip V 34 k v) := ⟨rfl, fun a b q1 q2 _ => by rw [hi_ip, if_neg (by omega)], fun _ _ => rfl, fun _ _ => rfl⟩
theorem mtx.mfr {V W : ab_HP} {d m : Nat} {el : Nat → Int32} (A : mfr V W) (T : mtx V d m el) : mtx W d m el := by
  obtain ⟨h1, h2, h3, h4, h5, h6⟩ := T
  exact ⟨fun k => by rw [A.2.2.1]; exact h1 k, h2, h3, by rw [A.2.1 _ _ (by decide) (by decide) (by omega)]; exact h4, by rw [A.2.1 _ _ (by decide) (by decide) (by omega)]; exact h5, fun k hk => by rw [A.2.1 _ _ (by decide) (by decide) (by omega)]; exact h6 k hk⟩
theorem txt.cfr {U W : ab_HP} {d m : Nat} {el : Nat → Int32} (A : cfr U W) (h50 : 50 ≤ U.1) (T : txt U d m el) : txt W d m el := by
  obtain ⟨h1, h2, h3, h4, h5⟩ := T
  exact ⟨cp_same (fun r k q1 q2 q3 q4 q5 q6 => A.2.2.1 r k q4 (by omega)) h1, h2, h3, by rw [A.2.1 _ _ (by omega) (by omega)]; exact h4, fun k hk => by rw [A.2.1 _ _ (by omega) (by omega)]; exact h5 k hk⟩
def t2 (U V : ab_HP) (d m : Nat) (el : Nat → Int32) : Prop := txt U d m el ∧ mtx V d m el ∧ 50 ≤ U.1 ∧ ∃ N, tw N (ab_i V 34) ∧ td U 5 N (ab_i V 34)
theorem cL_v {el : Nat → Int32} {m p : Nat} (h : cL el m p = true) : ∃ x, x < 10 ∧ p < m ∧ el p = nI (97 + x) := by
  unfold cL at h
  rw [Bool.and_eq_true, decide_eq_true_eq, decide_eq_true_eq, n_le, n_le, show (97 : Int32).toInt = 97 from rfl, show (106 : Int32).toInt = 106 from rfl] at h
  refine ⟨((el p).toInt - 97).toNat, by omega, h.1, ?_⟩
  rw [n_eq, nI_toInt (by omega)]
  omega
section
variable {U V : ab_HP} {d m p : Nat} {el : Nat → Int32}
theorem t2.pfr {W : ab_HP} (A : pfr V W) (H : t2 U V d m el) : t2 U W d m el := by
  obtain ⟨h1, h2, h3, N, h4, h5⟩ := H
  have e : ab_i W 34 = ab_i V 34 := funext fun k => A.2.1 34 k (by decide) (by omega)
  exact ⟨h1, h2.pfr A, h3, N, by rw [e]; exact h4, by rw [e]; exact h5⟩
theorem t2_set (H : t2 U V d m el) {k j : Nat} {v : Int32} (kj : (k = 2 ∧ j = 0 ∧ ∃ a, a < 1024 ∧ v = nI a) ∨ (k = 3 ∧ j = 1 ∧ ∃ c, c ≤ 9999 ∧ v = nI c) ∨ (k = 4 ∧ j = 3 ∧ ∃ l, l < 3 ∧ v = nI l) ∨ (k = 5 ∧ j = 4 ∧ ∃ a, a < 100 ∧ v = nI a) ∨ (k = 6 ∧ j = 5)) : t2 (ab_ip U 5 k v) (ab_ip V 34 j v) d m el := by
  obtain ⟨h1, h2, h3, N, ⟨g1, g2, g3, g4, g5, g6, g7⟩, ⟨f1, f2, f3, f4, f5, f6, f7⟩, f8⟩ := H
  have e : ∀ i, i ≠ j → ab_i (ab_ip V 34 j v) 34 i = ab_i V 34 i := fun i hi => by rw [hi_ip, if_neg (by omega)]
  have ej : ab_i (ab_ip V 34 j v) 34 j = v := by rw [hi_ip, if_pos ⟨rfl, rfl⟩]
  have u : ∀ i, i ≠ k → ab_i (ab_ip U 5 k v) 5 i = ab_i U 5 i := fun i hi => by rw [hi_ip, if_neg (by omega)]
  have uk : ab_i (ab_ip U 5 k v) 5 k = v := by rw [hi_ip, if_pos ⟨rfl, rfl⟩]
  have eg : ∀ dd i, t_g (ab_i (ab_ip V 34 j v) 34) dd i = t_g (ab_i V 34) dd i := fun dd i => e _ (by omega)
  refine ⟨h1.cfr cfr_ip h3, h2.mfr mfr_ip, h3, N, ⟨g1, ?_, ?_, ?_, ?_, ?_, ?_⟩, ⟨?_, ?_, ?_, ?_, ?_, ?_, ?_⟩, ?_⟩
  · rw [e 6 (by omega)]; exact g2
  · rcases kj with ⟨a, b, c⟩ | kj
    · subst b; rw [ej]; exact c
    · rw [e 0 (by omega)]; exact g3
  · by_cases q : j = 1
    · subst q; rw [ej]
      rcases kj with ⟨a, b, c⟩ | ⟨a, b, c⟩ | kj
      · omega
      · exact c
      · omega
    · rw [e 1 (by omega)]; exact g4
  · by_cases q : j = 3
    · subst q; rw [ej]
      rcases kj with ⟨a, b, c⟩ | ⟨a, b, c⟩ | ⟨a, b, c⟩ | kj
      · omega
      · omega
      · exact c
      · omega
    · rw [e 3 (by omega)]; exact g5
  · by_cases q : j = 4
    · subst q; rw [ej]
      rcases kj with ⟨a, b, c⟩ | ⟨a, b, c⟩ | ⟨a, b, c⟩ | ⟨a, b, c⟩ | kj
      · omega
      · omega
      · omega
      · exact c
      · omega
    · rw [e 4 (by omega)]; exact g6
  · intro dd hd
    simp only [eg]
    exact g7 dd hd
  · rw [u 1 (by omega), e 6 (by omega)]; exact f1
  · by_cases q : j = 0
    · have : k = 2 := by omega
      subst q this; rw [ej, uk]
    · rw [u 2 (by omega), e 0 (by omega)]; exact f2
  · by_cases q : j = 1
    · have : k = 3 := by omega
      subst q this; rw [ej, uk]
    · rw [u 3 (by omega), e 1 (by omega)]; exact f3
  · by_cases q : j = 3
    · have : k = 4 := by omega
      subst q this; rw [ej, uk]
    · rw [u 4 (by omega), e 3 (by omega)]; exact f4
  · by_cases q : j = 4
    · have : k = 5 := by omega
      subst q this; rw [ej, uk]
    · rw [u 5 (by omega), e 4 (by omega)]; exact f5
  · by_cases q : j = 5
    · have : k = 6 := by omega
      subst q this; rw [ej, uk]
    · rw [u 6 (by omega), e 5 (by omega)]; exact f6
  · rw [u 7 (by omega), e 2 (by omega)]; exact f7
  · intro dd hd
    obtain ⟨r, r1, r2, r3⟩ := f8 dd hd
    refine ⟨r, r1, r2, ?_⟩
    have r4 := r3.1
    unfold dk t_cost t_back t_kept at r3 ⊢
    simp only [eg, hi_ip]
    simp only [show ¬ r = 5 by omega, false_and, if_false]
    exact r3
theorem t2_n (H : t2 U V d m el) : ¬ ab_i U 5 3 < 0 ∧ ¬ ab_i U 5 4 < 0 ∧ ¬ ab_i U 5 5 < 0 := by
  obtain ⟨h1, h2, h3, N, ⟨g1, g2, g3, ⟨c, c1, c2⟩, ⟨l, l1, l2⟩, ⟨a, a1, a2⟩, g7⟩, ⟨f1, f2, f3, f4, f5, f6, f7⟩, f8⟩ := H
  exact ⟨by rw [f3, c2]; exact nI_pos (by omega), by rw [f4, l2]; exact nI_pos (by omega), by rw [f5, a2]; exact nI_pos (by omega)⟩
abbrev doS (U V : ab_HP) (d m p : Nat) (el : Nat → Int32) : Prop := ∃ b W X, f_X9_take 5 (some (15 + 2 * d)) (nI p) U = some (bI b, W) ∧ f_X12_comes 31 (el p) V = some (bI b, X) ∧ cfr U W ∧ mfr V X ∧ ab_i X 31 11 = ab_i V 31 11 ∧ (b = true → t2 W X d m el)
/-- the coins -/
theorem s_coin (H : t2 U V d m el) (hp : p < 300) (hs : (bStmt el m p).1 = true) (S : svs el m p V) (k : cS el m 99 p = true) : doS U V d m p el := by
  obtain ⟨q1, q2⟩ := cS_e k
  have eb : bStmt el m p = bSign el m 59 (bNum el m 4 (true, p + 1)) := by unfold bStmt; rw [if_pos k]
  rw [eb] at hs
  have st := bSign_t el m hs
  have T := H.1
  have hp0 := H.2.1.1
  obtain ⟨v1, v2⟩ := S.1 k
  have nm := c_number T (k := 4) (by decide) (by decide) (show p + 1 < 1000 by omega) st.1 (cS_nD (Or.inl rfl) st.2.2.1)
  rw [← nI_1] at nm
  obtain ⟨v, hv⟩ : ∃ v, nvN el ((bNum el m 4 (true, p + 1)).2 - (p + 1)) (p + 1) 0 = v := ⟨_, rfl⟩
  rw [hv] at v1 v2 nm
  have n0 : ¬ nI v < 0 := nI_pos (by omega)
  have n1 : nI v ≤ (9999 : Int32) := nI_le (b := 9999) (by omega) (by decide)
  refine ⟨true, ab_ip U 5 3 (nI v), ab_ip V 34 1 (nI v), ?_, ?_, cfr_ip, mfr_ip, ?_, fun _ => t2_set H (Or.inr (Or.inl ⟨rfl, rfl, v, by omega, rfl⟩))⟩
  · unfold f_X9_take f_X9_changeCoins ab_let
    rw [Option.bind_some, c_rdv T (by omega), Option.bind_some, (rdv_eq el m p (by decide)).mpr k, if_pos rfl, nm, Option.bind_some, if_neg n0, if_pos n1, Option.bind_some]
    dsimp only
    rw [if_neg (t2_n H).1]
    rfl
  · unfold f_X12_comes ab_let
    rw [q2, hp0 16, mp_16, Option.bind_some, shp_41, if_pos (by decide), if_pos rfl, hp0 2, mp_2, Option.bind_some, shp_34, if_pos (by decide), lit_c0, lit_c1, v1]
    rfl
  · rw [hi_ip, if_neg (by omega)]
/-- the law -/
theorem s_law (H : t2 U V d m el) (hp : p < 300) (hs : (bStmt el m p).1 = true) (S : svs el m p V) (k : cS el m 108 p = true) : doS U V d m p el := by
  obtain ⟨q1, q2⟩ := cS_e k
  have no : ∀ c', c' ≠ 108 → ¬ cS el m c' p = true := fun c' hne x => hne (cS_2 x k)
  have eb : bStmt el m p = bSign el m 59 (bDig el m (true, p + 1)) := by unfold bStmt; rw [if_neg (no 99 (by decide)), if_neg (no 100 (by decide)), if_pos k]
  rw [eb] at hs
  have st := bSign_t el m hs
  have T := H.1
  have hp0 := H.2.1.1
  have v1 := S.2.2.1 k
  have dd := bDig_2 st.1
  have nm := c_number T (k := 1) (by decide) (by decide) (show p + 1 < 1000 by omega) (by rw [bNum_1]; exact st.1) (by rw [bNum_1]; exact cS_nD (Or.inl rfl) st.2.2.1)
  rw [bNum_1, dd.2.2, show ((true, p + 1) : rT).2 + 1 - (p + 1) = 0 + 1 by show p + 1 + 1 - (p + 1) = 0 + 1; omega, nvN, nvN, Nat.mul_zero, Nat.zero_add, ← nI_1] at nm
  have v2 := (cD_v dd.2.1).2.2
  rw [show ((true, p + 1) : rT).2 = p + 1 from rfl] at v2
  obtain ⟨v, hv⟩ : ∃ v, dgv el (p + 1) = v := ⟨_, rfl⟩
  rw [hv] at v1 v2 nm
  have n0 : ¬ nI v < 0 := nI_pos (by omega)
  have cl : f_X9_take 5 (some (15 + 2 * d)) (nI p) U = if nI v < 3 then some (1, ab_ip U 5 4 (nI v)) else some (0, U) := by
    unfold f_X9_take f_X9_changeLaw ab_let
    rw [Option.bind_some, c_rdv T (by omega), Option.bind_some, (rdv_eq el m p (by decide)).mpr k, if_neg (by decide), if_neg (by decide), if_neg (by decide), if_neg (by decide), nm, Option.bind_some, if_neg n0]
    by_cases q : nI v < 3
    · rw [if_pos q, if_pos q, Option.bind_some]
      dsimp only
      rw [if_neg (t2_n H).2.1]
    · rw [if_neg q, if_neg q, Option.bind_some]
      rfl
  have ml : f_X12_comes 31 (el p) V = if 3 ≤ nI v then some (0, ab_ip V 34 3 (nI v)) else some (1, ab_ip V 34 3 (nI v)) := by
    unfold f_X12_comes ab_let
    rw [q2, hp0 16, mp_16, Option.bind_some, shp_41, if_pos (by decide), if_neg (by decide), if_neg (by decide), if_pos rfl, hp0 2, mp_2, Option.bind_some, shp_34, if_pos (by decide), lit_c0, lit_c3, v1]
  by_cases q : v < 3
  · rw [if_pos (show nI v < 3 from nI_lt (b := 3) q (by decide))] at cl
    rw [if_neg (show ¬ (3 : Int32) ≤ nI v from nI_ge (b := 3) q (by omega))] at ml
    exact ⟨true, _, _, cl, ml, cfr_ip, mfr_ip, by rw [hi_ip, if_neg (by omega)], fun _ => t2_set H (Or.inr (Or.inr (Or.inl ⟨rfl, rfl, v, q, rfl⟩)))⟩
  · rw [if_neg (show ¬ nI v < 3 from nI_nlt (b := 3) (by omega) (by omega))] at cl
    rw [if_pos (show (3 : Int32) ≤ nI v from nI_le (a := 3) (by omega) (by omega))] at ml
    exact ⟨false, _, _, cl, ml, cfr_refl _, mfr_ip, by rw [hi_ip, if_neg (by omega)], fun x => absurd x Bool.false_ne_true⟩
/-- a mark -/
theorem s_mark (H : t2 U V d m el) (hp : p < 300) (hs : (bStmt el m p).1 = true) (S : svs el m p V) (k : cS el m 109 p = true) : doS U V d m p el := by
  obtain ⟨q1, q2⟩ := cS_e k
  have no : ∀ c', c' ≠ 109 → ¬ cS el m c' p = true := fun c' hne x => hne (cS_2 x k)
  have eb : bStmt el m p = bSign el m 59 (bLet el m (true, p + 1)) := by unfold bStmt; rw [if_neg (no 99 (by decide)), if_neg (no 100 (by decide)), if_neg (no 108 (by decide)), if_pos k]
  rw [eb] at hs
  have st := bSign_t el m hs
  have T := H.1
  have hp0 := H.2.1.1
  have v1 := S.2.2.2.1 k
  obtain ⟨x, x1, x2, x3⟩ : ∃ x, x < 10 ∧ p + 1 < m ∧ el (p + 1) = nI (97 + x) := by
    have l1 := st.1
    unfold bLet at l1
    rw [if_pos (show ((true, p + 1) : rT).1 = true from rfl)] at l1
    by_cases a : cL el m (p + 1) = true
    · exact cL_v a
    · rw [if_neg a] at l1
      exact absurd l1 Bool.false_ne_true
  have ex : el (p + 1) - 97 = nI x := by
    rw [x3, n_lit 97, nx_sub (by omega)]
    congr 1
    omega
  rw [ex] at v1
  have rv : rdv el m (p + 1) - 97 = nI x := by rw [rdv, if_pos x2]; exact ex
  obtain ⟨h1, h2, h3, N, g, ⟨f1, f2, f3, f4, f5, f6, f7⟩, f8⟩ := H
  have H : t2 U V d m el := ⟨h1, h2, h3, N, g, ⟨f1, f2, f3, f4, f5, f6, f7⟩, f8⟩
  have cl : f_X9_take 5 (some (15 + 2 * d)) (nI p) U = if bt (ab_i V 34 0) x = false then some (1, ab_ip U 5 2 (ab_i V 34 0 ||| pbit x)) else some (0, U) := by
    unfold f_X9_take f_X9_takeMark ab_let
    rw [Option.bind_some, c_rdv T (by omega), Option.bind_some, (rdv_eq el m p (by decide)).mpr k, if_neg (by decide), if_neg (by decide), if_pos rfl, nI_1, c_rdv T (by omega), Option.bind_some, rv, f2]
    simp only [bt_has (ab_i V 34 0) (show x < 32 by omega)]
    by_cases q : bt (ab_i V 34 0) x = false
    · rw [if_pos q, Option.bind_some]
    · rw [if_neg q, Option.bind_some]
  have ml : f_X12_comes 31 (el p) V = if bt (ab_i V 34 0) x = true then some (0, V) else some (1, ab_ip V 34 0 (ab_i V 34 0 ||| pbit x)) := by
    unfold f_X12_comes ab_let
    rw [q2, hp0 16, mp_16, Option.bind_some, shp_41, if_pos (by decide), if_neg (by decide), if_neg (by decide), if_neg (by decide), if_pos rfl, hp0 2, mp_2, Option.bind_some, shp_34, if_pos (by decide), lit_c0, v1]
    simp only [bt_has1 (ab_i V 34 0) (show x < 32 by omega)]
    by_cases q : bt (ab_i V 34 0) x = true
    · rw [if_pos q, if_pos q]
    · rw [if_neg q, if_neg q, Option.bind_some, if_pos (by decide), if_pos (by decide)]
  by_cases q : bt (ab_i V 34 0) x = true
  · rw [if_neg (by rw [q]; decide)] at cl
    rw [if_pos q] at ml
    exact ⟨false, _, _, cl, ml, cfr_refl _, mfr_refl _, rfl, fun x => absurd x Bool.false_ne_true⟩
  · rw [if_pos (by simpa using q)] at cl
    rw [if_neg q] at ml
    have tb := tw_bits g
    obtain ⟨a, a1, a2, a3⟩ := bt_nat (x := ab_i V 34 0 ||| pbit x) (n := 10) (by decide) (fun j j1 j2 => by rw [bt_orp _ (by omega) j2, tb j j1, Bool.false_or, decide_eq_false (by omega)])
    exact ⟨true, _, _, cl, ml, cfr_ip, mfr_ip, by rw [hi_ip, if_neg (by omega)], fun _ => t2_set H (Or.inl ⟨rfl, rfl, a, a1, a2⟩)⟩
theorem ip_comm (V : ab_HP) (r : Nat) {j k : Nat} (v w : Int32) (h : j ≠ k) : ab_ip (ab_ip V r j v) r k w = ab_ip (ab_ip V r k w) r j v := by
  unfold ab_ip
  refine Prod.ext rfl (Prod.ext (funext fun a => funext fun b => ?_) rfl)
  show (if a = r ∧ b = k then w else if a = r ∧ b = j then v else _) = if a = r ∧ b = j then v else if a = r ∧ b = k then w else _
  by_cases q : a = r ∧ b = k
  · rw [if_pos q, if_neg (by omega), if_pos q]
  · rw [if_neg q, if_neg q]
/-- the nail -/
theorem s_nail (H : t2 U V d m el) (hp : p < 300) (hs : (bStmt el m p).1 = true) (S : svs el m p V) (k : cS el m 110 p = true) : doS U V d m p el := by
  obtain ⟨q1, q2⟩ := cS_e k
  have no : ∀ c', c' ≠ 110 → ¬ cS el m c' p = true := fun c' hne x => hne (cS_2 x k)
  have eb : bStmt el m p = bSign el m 59 (bNail el m (true, p + 1)) := by unfold bStmt; rw [if_neg (no 99 (by decide)), if_neg (no 100 (by decide)), if_neg (no 108 (by decide)), if_neg (no 109 (by decide)), if_pos k]
  rw [eb] at hs
  have st := bSign_t el m hs
  have T := H.1
  have hp0 := H.2.1.1
  obtain ⟨v1, v2, v3⟩ := S.2.2.2.2 k
  obtain ⟨e2, he2⟩ : ∃ e2, e2 = (bNum el m 2 (true, p + 1)).2 := ⟨_, rfl⟩
  have nr := bNum_r el m (k := 2) (by decide) (true, p + 1)
  have nr0 : ((true, p + 1) : rT).2 = p + 1 := rfl
  -- what the nail holds
  obtain ⟨b1, b2⟩ : (bSign el m 32 (bNum el m 2 (true, p + 1))).1 = true ∧ ∃ r : rT, r.1 = true ∧ r.2 = e2 + 2 ∧ (bDig el m r).1 = true ∧ bNail el m (true, p + 1) = bDig el m r ∧ e2 + 1 < m := by
    have s1 := st.1
    unfold bNail at s1 ⊢
    split at s1
    · rename_i y
      have w := bSign_t el m y.1
      have z := cS_e y.2
      rw [if_pos y]
      rw [w.2.2.2, ← he2] at z s1 ⊢
      exact ⟨y.1, _, rfl, rfl, s1, rfl, z.1⟩
    · rename_i y
      rw [if_neg y]
      have w := bSign_t el m (bDig_2 s1).1
      have w2 := bSign_t el m w.1
      have w3 := w.2.2.2
      have w4 := w.2.1
      rw [w2.2.2.2, ← he2] at w3 w4
      exact ⟨w.1, _, w.1.symm ▸ (bDig_2 s1).1, w3, s1, rfl, w4⟩
  obtain ⟨r, r1, r2, r3, r4, r5⟩ := b2
  have b3 := bSign_t el m b1
  have dd := bDig_2 r3
  have er : r = (true, e2 + 2) := by rw [← r2]; exact rT_t r1
  subst er
  rw [← he2] at nr v1 v2 v3 b3
  rw [r4] at st
  have nd : ¬ cD el m (e2 + 3) = true := cS_nD (Or.inl rfl) (by rw [dd.2.2] at st; exact st.2.2.1)
  have n1 := c_number (U := U) T (k := 2) (by decide) (by decide) (show p + 1 < 1000 by omega) b3.1 (by rw [← he2]; exact cS_nD (Or.inr rfl) b3.2.2.1)
  have n2 := c_number (U := U) T (k := 1) (by decide) (by decide) (show e2 + 2 < 1000 by omega) (by rw [bNum_1]; exact r3) (by rw [bNum_1, dd.2.2]; exact nd)
  rw [bNum_1, dd.2.2, show ((true, e2 + 2) : rT).2 + 1 - (e2 + 2) = 0 + 1 by show e2 + 2 + 1 - (e2 + 2) = 0 + 1; omega, nvN, nvN, Nat.mul_zero, Nat.zero_add] at n2
  rw [← he2] at n1
  have bn := c_bNum (U := U) T (k := 2) (by decide) (by decide) (r := (true, p + 1)) (show p + 1 < 1000 by omega)
  rw [rT_t b3.1, ← he2, rE_t, rE_t, show nI 2 = (2 : Int32) from rfl] at bn
  have v4 := (cD_v dd.2.1).2.2
  obtain ⟨a, ha⟩ : ∃ a, nvN el (e2 - (p + 1)) (p + 1) 0 = a := ⟨_, rfl⟩
  obtain ⟨b, hb⟩ : ∃ b, dgv el (e2 + 2) = b := ⟨_, rfl⟩
  rw [ha] at v1 v2 n1
  rw [hb] at v3 n2
  have n0 : ¬ nI a < 0 := nI_pos (by omega)
  have n9 : nI a ≤ (99 : Int32) := nI_le (b := 99) (by omega) (by decide)
  have fin : ∀ w : Int32, ab_i V 41 1 = w → f_X9_take 5 (some (15 + 2 * d)) (nI p) U = some (1, ab_ip (ab_ip U 5 6 w) 5 5 (nI a)) → doS U V d m p el := fun w hw cl => by
    refine ⟨true, _, ab_ip (ab_ip V 34 4 (nI a)) 34 5 w, cl, ?_, cfr_ip.trans cfr_ip, mfr_ip.trans mfr_ip, ?_, fun _ => ?_⟩
    · unfold f_X12_comes ab_let
      rw [q2, hp0 16, mp_16, Option.bind_some, shp_41, if_pos (by decide), if_neg (by decide), if_neg (by decide), if_neg (by decide), if_neg (by decide), hp0 2, mp_2, Option.bind_some, shp_34, if_pos (by decide), lit_c0, lit_c4, v1]
      simp only [hr_ip]
      rw [hp0 16, mp_16, Option.bind_some, shp_41, if_pos (by decide), hp0 2, mp_2, Option.bind_some, shp_34, if_pos (by decide), lit_c1, lit_c5, hi_ip, if_neg (by omega), hw]
      rfl
    · rw [hi_ip, if_neg (by omega), hi_ip, if_neg (by omega)]
    · rw [ip_comm V 34 _ _ (show 4 ≠ 5 by decide)]
      exact t2_set (t2_set H (Or.inr (Or.inr (Or.inr (Or.inr ⟨rfl, rfl⟩))))) (Or.inr (Or.inr (Or.inr (Or.inl ⟨rfl, rfl, a, v2, rfl⟩))))
  have T6 : ∀ w, txt (ab_ip U 5 6 w) d m el := fun w => T.cfr cfr_ip H.2.2.1
  have n1' : ∀ w, f_X9_number (some (15 + 2 * d)) (nI (p + 1)) (ab_ip U 5 6 w) = some (nI a) := fun w => by
    have := c_number (T6 w) (k := 2) (by decide) (by decide) (show p + 1 < 1000 by omega) b3.1 (by rw [← he2]; exact cS_nD (Or.inr rfl) b3.2.2.1)
    rw [← he2, ha] at this
    exact this
  have nn : ∀ w, ¬ ab_i (ab_ip U 5 6 w) 5 5 < 0 := fun w => by rw [hi_ip, if_neg (by omega)]; exact (t2_n H).2.2
  have rv : rdv el m (e2 + 1) = el (e2 + 1) := if_pos r5
  by_cases x : cS el m 45 (e2 + 1) = true
  · rw [if_pos x] at v3
    refine fin _ v3 ?_
    unfold f_X9_take f_X9_takeNail f_X9_changeNail ab_let
    rw [Option.bind_some, c_rdv T (by omega), Option.bind_some, (rdv_eq el m p (by decide)).mpr k, if_neg (by decide), if_neg (by decide), if_neg (by decide), if_pos rfl, nI_1, bn, Option.bind_some, nI_1, nI_1, n2, Option.bind_some, Option.bind_some, c_rdv T (by omega), Option.bind_some, if_pos ((rdv_eq el m (e2 + 1) (by decide)).mpr x)]
    dsimp only
    rw [n1', Option.bind_some, if_neg n0, if_pos n9, Option.bind_some]
    dsimp only
    rw [if_neg (nn _), Option.bind_some]
  · rw [if_neg x] at v3
    refine fin _ v3 ?_
    unfold f_X9_take f_X9_takeNail f_X9_changeNail ab_let
    rw [Option.bind_some, c_rdv T (by omega), Option.bind_some, (rdv_eq el m p (by decide)).mpr k, if_neg (by decide), if_neg (by decide), if_neg (by decide), if_pos rfl, nI_1, bn, Option.bind_some, nI_1, nI_1, n2, Option.bind_some, Option.bind_some, c_rdv T (by omega), Option.bind_some, if_neg (fun y => x ((rdv_eq el m (e2 + 1) (by decide)).mp y))]
    dsimp only
    rw [n1', Option.bind_some, if_neg n0, if_pos n9, Option.bind_some]
    dsimp only
    rw [if_neg (nn _), Option.bind_some]
end
end PRX
