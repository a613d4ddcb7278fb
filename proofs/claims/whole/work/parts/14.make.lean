section ABN
theorem ab_dflt (kd : Nat) : defaultValue (ab_kty kd) = if kd < 2 then .int 0 else if kd = 2 then .long 0 else .null := by
  match kd with
  | 0 | 1 | 2 => rfl
  | n + 3 =>
    rw [if_neg (by omega), if_neg (by omega)]
    rcases ab_kty_ref n with ⟨C, h⟩ | ⟨t, h⟩ <;> rw [h] <;> rfl
theorem ab_last_at {D : ab_G} {h : ab_HP} {ws : va_W} {a : Nat} {e : va_E} (hR : ab_R D h ws) : (ws ++ [(a, e)])[h.1]? = some (a, e) := by
  rw [List.getElem?_append_right (by rw [hR.1]; exact Nat.le_refl _), hR.1, Nat.sub_self]
  rfl
/-- a class as another's code makes it -/
def ab_NF (own : String) (idx t ci : Nat) (C : String) (T : u_T) (N : Nat) : Prop := Cond.classLink own idx C ∈ ab_TS ∧ Cond.instantiable C N ∈ ab_TS ∧ Cond.initialized C ∈ ab_TS ∧ vwCl[ci]? = some (C, T, N) ∧ ci ∈ ab_cls t ∧ t < 6 ∧ (ab_fk t).length = N ∧ ∀ k, k < N → parseFieldDescriptor (T k).2.2.1 = ((ab_fk t)[k]?).map ab_kty
section
variable {y : ab_M} {d mc ms c s pc pc2 q t k kd idx : Nat} {x : Option Nat} {lo : List (Option Value)} {st : List Value} {h : ab_HP} {P : Option Value → ab_HP → Prop}
theorem ab_new {ci N : Nat} {C' : String} {T : u_T} (nf : ab_NF y.1.cls idx t ci C' T N) (hq : (ab_shp h.1).1 = t) (hc : c + 1 ≤ mc) (hs : s + N ≤ ms) (hd : decode y.2.1 pc = .ok (.new idx, 3)) (hn : pc + 3 = pc2) (kk : ab_T y d mc ms (c + 1) (s + N) pc2 lo (va_rf (some h.1) :: st) (ab_nw h) P) : ab_T y d mc ms c s pc lo st h P := by
  intro p l e R σ m args below meth cd D A Q C ws H locs ls cst hR hP hD hS hL hT hK
  subst hn
  obtain ⟨n1, n2, n3, n4, n5, n6, n7, n8⟩ := nf
  have hC := C
  obtain ⟨hx, hb, hml, hown, hts, hKW, hfr, hlo, hmc, hms, hA, -⟩ := C
  obtain ⟨g1, ⟨ty0, g2⟩, g3⟩ := ab_ci ci C' T N n4
  have hty : ∀ j kd, (ab_fk t)[j]? = some kd → j < N ∧ ty0 j = ab_kty kd := fun j kd hj => by
    have hjN : j < N := by rw [← n7]; exact (List.getElem?_eq_some_iff.mp hj).1
    have e1 := n8 j hjN
    rw [hj, g2 j hjN] at e1
    exact ⟨hjN, Option.some.inj e1⟩
  refine va_new (own := y.1.cls) (fs := (List.range N).map fun j => defaultValue (ty0 j)) hx hb hts g1 ty0 g2 hown (hts _ n1) (hts _ n2) (hts _ n3) hKW.1 hP hD hS hA n4 (fun j hj => ?_) (Nat.le_trans hc hmc) (Nat.le_trans hs hms) hd fun a H1 hP1 hD1 hS1 => ?_
  · simp [vp_V, hj]
  · have hp : ab_P ws (ws ++ [(a, .inr (ci, (List.range N).map fun j => defaultValue (ty0 j)))]) := ab_P.app
    refine kk p l e R σ m args below meth cd D A Q hC _ H1 locs ls _ (hR.push ?_) hP1 hD1 hS1 (hL.mono hp) ⟨_, _, rfl, ⟨a, _, ab_last_at hR, rfl⟩, hT.mono hp⟩ (fun v2 u2 ws2 H2 locs2 ls2 pc3 cv2 q1 q2 => hK v2 u2 ws2 H2 locs2 ls2 pc3 cv2 q1 (hp.tr q2))
    · unfold ab_ce
      rw [hq, if_pos n6]
      refine ⟨ci, _, n5, rfl, by rw [List.length_map, List.length_range, n7], fun j kd hj => ?_⟩
      obtain ⟨hjN, e1⟩ := hty j kd hj
      refine ⟨defaultValue (ty0 j), by rw [List.getElem?_map, List.getElem?_range hjN]; rfl, ?_⟩
      rw [e1, ab_dflt]
      unfold ab_fv
      split
      · show Value.int 0 = .int (if h.1 = h.1 then 0 else h.2.1 h.1 j)
        rw [if_pos rfl]
      · split
        · show Value.long 0 = .long (if h.1 = h.1 then 0 else h.2.2.1 h.1 j)
          rw [if_pos rfl]
        · refine ⟨none, ?_, rfl⟩
          have e2 : ab_r (ab_nw h) h.1 j = none := by
            show (if h.1 = h.1 then none else h.2.2.2 h.1 j) = none
            rw [if_pos rfl]
          rw [e2]
          rfl
theorem ab_nw_i (h : ab_HP) : ab_i (ab_nw h) h.1 = fun _ => 0 := funext fun j => by
  show (if h.1 = h.1 then 0 else h.2.1 h.1 j) = 0
  rw [if_pos rfl]
theorem ab_nw_l (h : ab_HP) : ab_l (ab_nw h) h.1 = fun _ => 0 := funext fun j => by
  show (if h.1 = h.1 then 0 else h.2.2.1 h.1 j) = 0
  rw [if_pos rfl]
theorem ab_nw_r (h : ab_HP) (j : Nat) : ab_r (ab_nw h) h.1 j = none := by
  show (if h.1 = h.1 then none else h.2.2.2 h.1 j) = none
  rw [if_pos rfl]
theorem ab_newaI {n : Int32} {N : Nat} (hw : Cond.arrayClass .int ∈ ab_TS) (hq : ab_shp h.1 = (6, N)) (hn0 : ¬ n < 0) (hN : n.toNatClampNeg = N) (hN2 : N ≤ 1000) (hc : c + 1 ≤ mc) (hs : s + N ≤ ms) (hd : decode y.2.1 pc = .ok (.newarray .int, 2)) (hn : pc + 2 = pc2) (kk : ab_T y d mc ms (c + 1) (s + N) pc2 lo (va_rf (some h.1) :: st) (ab_nw h) P) : ab_T y d mc ms c s pc lo (.int n :: st) h P := by
  intro p l e R σ m args below meth cd D A Q C ws H locs ls cst hR hP hD hS hL hT hK
  subst hn
  obtain ⟨c1, s1, rfl, g1, hT⟩ := hT
  have g1 : c1 = .int n := g1
  subst g1
  have hC := C
  obtain ⟨hx, hb, hml, hown, hts, hKW, hfr, hlo, hmc, hms, hA, -⟩ := C
  refine va_newa (atype := .int) (ty := .int) (a0 := (N, .inl fun _ => 0)) hx hb (hts _ hw) rfl hKW.1 hP hD hS hA (fun _ => rfl) hn0 hN (by show N * 4 ≤ _; omega) (Nat.le_trans hc hmc) (Nat.le_trans hs hms) hd fun a cA H1 hK1 hP1 hD1 hS1 => ?_
  have e1 : cA = D.2.1.1 := by
    have a1 := va_nm_int (hK1.2 4 (cA, .int) rfl).2
    have a2 := va_nm_int (hKW.1.2 0 (D.2.1.1, .int) rfl).2
    exact Option.some.inj (a1.symm.trans a2)
  subst e1
  have hp : ab_P ws (ws ++ [(a, .inl (D.2.1.1, N, .inl fun _ => 0))]) := ab_P.app
  refine kk p l e R σ m args below meth cd D A Q hC _ H1 locs ls _ (hR.push ?_) hP1 hD1 hS1 (hL.mono hp) ⟨_, _, rfl, ⟨a, _, ab_last_at hR, rfl⟩, hT.mono hp⟩ (fun v2 u2 ws2 H2 locs2 ls2 pc3 cv2 q1 q2 => hK v2 u2 ws2 H2 locs2 ls2 pc3 cv2 q1 (hp.tr q2))
  · unfold ab_ce
    rw [show (ab_shp h.1).1 = 6 by rw [hq], show (ab_shp h.1).2 = N by rw [hq], if_neg (by decide), if_pos rfl, ab_nw_i]
theorem ab_newaL {n : Int32} {N : Nat} (hw : Cond.arrayClass .long ∈ ab_TS) (hq : ab_shp h.1 = (7, N)) (hn0 : ¬ n < 0) (hN : n.toNatClampNeg = N) (hN2 : N ≤ 1000) (hc : c + 1 ≤ mc) (hs : s + N ≤ ms) (hd : decode y.2.1 pc = .ok (.newarray .long, 2)) (hn : pc + 2 = pc2) (kk : ab_T y d mc ms (c + 1) (s + N) pc2 lo (va_rf (some h.1) :: st) (ab_nw h) P) : ab_T y d mc ms c s pc lo (.int n :: st) h P := by
  intro p l e R σ m args below meth cd D A Q C ws H locs ls cst hR hP hD hS hL hT hK
  subst hn
  obtain ⟨c1, s1, rfl, g1, hT⟩ := hT
  have g1 : c1 = .int n := g1
  subst g1
  have hC := C
  obtain ⟨hx, hb, hml, hown, hts, hKW, hfr, hlo, hmc, hms, hA, -⟩ := C
  refine va_newa (atype := .long) (ty := .long) (a0 := (N, .inr (.inl fun _ => 0))) hx hb (hts _ hw) rfl hKW.1 hP hD hS hA (fun _ => rfl) hn0 hN (by show N * 8 ≤ _; omega) (Nat.le_trans hc hmc) (Nat.le_trans hs hms) hd fun a cA H1 hK1 hP1 hD1 hS1 => ?_
  have e1 : cA = D.2.1.2.1 := by
    have a1 := va_nm_long (hK1.2 4 (cA, .long) rfl).2
    have a2 := va_nm_long (hKW.1.2 1 (D.2.1.2.1, .long) rfl).2
    exact Option.some.inj (a1.symm.trans a2)
  subst e1
  have hp : ab_P ws (ws ++ [(a, .inl (D.2.1.2.1, N, .inr (.inl fun _ => 0)))]) := ab_P.app
  refine kk p l e R σ m args below meth cd D A Q hC _ H1 locs ls _ (hR.push ?_) hP1 hD1 hS1 (hL.mono hp) ⟨_, _, rfl, ⟨a, _, ab_last_at hR, rfl⟩, hT.mono hp⟩ (fun v2 u2 ws2 H2 locs2 ls2 pc3 cv2 q1 q2 => hK v2 u2 ws2 H2 locs2 ls2 pc3 cv2 q1 (hp.tr q2))
  · unfold ab_ce
    rw [show (ab_shp h.1).1 = 7 by rw [hq], show (ab_shp h.1).2 = N by rw [hq], if_neg (by decide), if_neg (by decide), if_pos rfl, ab_nw_l]
/-- rows of references: of deeds (8) or shelves (9) -/
theorem ab_newaR {n : Int32} {N : Nat} {C' : String} (hw : Cond.classLink y.1.cls idx C' ∈ ab_TS) (ht : t = 8 ∧ C' = RX1 ∨ t = 9 ∧ C' = RX6) (hq : ab_shp h.1 = (t, N)) (hn0 : ¬ n < 0) (hN : n.toNatClampNeg = N) (hN2 : N ≤ 1000) (hc : c + 1 ≤ mc) (hs : s + N ≤ ms) (hd : decode y.2.1 pc = .ok (.anewarray idx, 3)) (hn : pc + 3 = pc2) (kk : ab_T y d mc ms (c + 1) (s + N) pc2 lo (va_rf (some h.1) :: st) (ab_nw h) P) : ab_T y d mc ms c s pc lo (.int n :: st) h P := by
  intro p l e R σ m args below meth cd D A Q C ws H locs ls cst hR hP hD hS hL hT hK
  subst hn
  obtain ⟨c1, s1, rfl, g1, hT⟩ := hT
  have g1 : c1 = .int n := g1
  subst g1
  have hC := C
  obtain ⟨hx, hb, hml, hown, hts, hKW, hfr, hlo, hmc, hms, hA, -⟩ := C
  have hover : va_AO C' σ := by
    rcases ht with ⟨-, rfl⟩ | ⟨-, rfl⟩
    · exact hKW.2.2.2.1
    · exact hKW.2.2.2.2
  refine va_newq (own := y.1.cls) (C := C') hx hb hown (hts _ hw) hover hKW.1 hP hD hS hA hn0 hN (by omega) (Nat.le_trans hc hmc) (Nat.le_trans hs hms) hd fun a cA H1 hK1 hP1 hD1 hS1 => ?_
  have e1 : cA = (if t = 8 then D.2.1.2.2.1 else D.2.1.2.2.2) := by
    obtain ⟨-, -, -, -, -, a1⟩ := (hK1.2 4 (cA, .object C') rfl).2
    rcases ht with ⟨rfl, rfl⟩ | ⟨rfl, rfl⟩
    · obtain ⟨-, -, -, -, -, a2⟩ := (hKW.1.2 2 (D.2.1.2.2.1, .object RX1) rfl).2
      exact Option.some.inj (a1.symm.trans a2)
    · obtain ⟨-, -, -, -, -, a2⟩ := (hKW.1.2 3 (D.2.1.2.2.2, .object RX6) rfl).2
      exact Option.some.inj (a1.symm.trans a2)
  have hp : ab_P ws (ws ++ [(a, .inl (cA, N, .inr (.inr (.inr (.inr fun _ => none)))))]) := ab_P.app
  refine kk p l e R σ m args below meth cd D A Q hC _ H1 locs ls _ (hR.push ?_) hP1 hD1 hS1 (hL.mono hp) ⟨_, _, rfl, ⟨a, _, ab_last_at hR, rfl⟩, hT.mono hp⟩ (fun v2 u2 ws2 H2 locs2 ls2 pc3 cv2 q1 q2 => hK v2 u2 ws2 H2 locs2 ls2 pc3 cv2 q1 (hp.tr q2))
  · unfold ab_ce
    rcases ht with ⟨rfl, -⟩ | ⟨rfl, -⟩
    · rw [show (ab_shp h.1).1 = 8 by rw [hq], show (ab_shp h.1).2 = N by rw [hq], if_neg (by decide), if_neg (by decide), if_neg (by decide), if_pos rfl]
      rw [if_pos rfl] at e1
      exact ⟨_, by rw [e1], fun i => by rw [ab_nw_r]; rfl⟩
    · rw [show (ab_shp h.1).1 = 9 by rw [hq], show (ab_shp h.1).2 = N by rw [hq], if_neg (by decide), if_neg (by decide), if_neg (by decide), if_neg (by decide)]
      rw [if_neg (by decide)] at e1
      exact ⟨_, by rw [e1], fun i => by rw [ab_nw_r]; rfl⟩
/-! rows -/
theorem ab_rowI {D : ab_G} {ws : va_W} {a : Nat} {x0 : va_E} (hR : ab_R D h ws) (hq : ws[q]? = some (a, x0)) (ht : (ab_shp q).1 = 6) : x0 = .inl (D.2.1.1, (ab_shp q).2, .inl (ab_i h q)) := by
  have g := hR.2 q a x0 hq
  unfold ab_ce at g
  rwa [ht, if_neg (by decide), if_pos rfl] at g
theorem ab_rowL {D : ab_G} {ws : va_W} {a : Nat} {x0 : va_E} (hR : ab_R D h ws) (hq : ws[q]? = some (a, x0)) (ht : (ab_shp q).1 = 7) : x0 = .inl (D.2.1.2.1, (ab_shp q).2, .inr (.inl (ab_l h q))) := by
  have g := hR.2 q a x0 hq
  unfold ab_ce at g
  rwa [ht, if_neg (by decide), if_neg (by decide), if_pos rfl] at g
theorem ab_rowR {D : ab_G} {ws : va_W} {a : Nat} {x0 : va_E} (hR : ab_R D h ws) (hq : ws[q]? = some (a, x0)) (ht : (ab_shp q).1 = t) (ht2 : t = 8 ∨ t = 9) : ∃ g : Nat → Option Nat, x0 = .inl ((if t = 8 then D.2.1.2.2.1 else D.2.1.2.2.2), (ab_shp q).2, .inr (.inr (.inr (.inr g)))) ∧ ∀ i, ab_ro ws (if t = 8 then 4 else 3) (ab_r h q i) (g i) := by
  have g := hR.2 q a x0 hq
  unfold ab_ce at g
  rcases ht2 with rfl | rfl
  · rwa [ht, if_neg (by decide), if_neg (by decide), if_neg (by decide), if_pos rfl] at g
  · rwa [ht, if_neg (by decide), if_neg (by decide), if_neg (by decide), if_neg (by decide)] at g
theorem ab_iald {i : Int32} (hx : x = some q) (ht : (ab_shp q).1 = 6) (hin : vp_in i (ab_shp q).2) (hd : decode y.2.1 pc = .ok (.iaload, 1)) (hn : pc + 1 = pc2) (kk : ab_T y d mc ms c s pc2 lo (.int (ab_i h q i.toNatClampNeg) :: st) h P) : ab_T y d mc ms c s pc lo (.int i :: va_rf x :: st) h P := by
  intro p l e R σ m args below meth cd D A Q C ws H locs ls cst hR hP hD hS hL hT hK
  subst hn hx
  obtain ⟨c1, s1, rfl, g1, c2, s2, rfl, ⟨a, x0, ha, rfl⟩, hT⟩ := hT
  have g1 : c1 = .int i := g1
  subst g1
  have e1 := ab_rowI hR ha ht
  subst e1
  exact va_iald C.1 C.2.1 C.2.2.2.2.2.1.1 hP q 0 ha rfl hin hd (kk p l e R σ m args below meth cd D A Q C ws H locs ls _ hR hP hD hS hL ⟨_, _, rfl, rfl, hT⟩ hK)
theorem ab_lald {i : Int32} (hx : x = some q) (ht : (ab_shp q).1 = 7) (hin : vp_in i (ab_shp q).2) (hd : decode y.2.1 pc = .ok (.laload, 1)) (hn : pc + 1 = pc2) (kk : ab_T y d mc ms c s pc2 lo (.long (ab_l h q i.toNatClampNeg) :: st) h P) : ab_T y d mc ms c s pc lo (.int i :: va_rf x :: st) h P := by
  intro p l e R σ m args below meth cd D A Q C ws H locs ls cst hR hP hD hS hL hT hK
  subst hn hx
  obtain ⟨c1, s1, rfl, g1, c2, s2, rfl, ⟨a, x0, ha, rfl⟩, hT⟩ := hT
  have g1 : c1 = .int i := g1
  subst g1
  have e1 := ab_rowL hR ha ht
  subst e1
  exact va_lald C.1 C.2.1 C.2.2.2.2.2.1.1 hP q 1 ha rfl hin hd (kk p l e R σ m args below meth cd D A Q C ws H locs ls _ hR hP hD hS hL ⟨_, _, rfl, rfl, hT⟩ hK)
theorem ab_aald {i : Int32} (hx : x = some q) (ht : (ab_shp q).1 = t) (ht2 : t = 8 ∨ t = 9) (hin : vp_in i (ab_shp q).2) (hd : decode y.2.1 pc = .ok (.aaload, 1)) (hn : pc + 1 = pc2) (kk : (∀ z, ab_r h q i.toNatClampNeg = some z → (ab_shp z).1 = if t = 8 then 4 else 3) → ab_T y d mc ms c s pc2 lo (va_rf (ab_r h q i.toNatClampNeg) :: st) h P) : ab_T y d mc ms c s pc lo (.int i :: va_rf x :: st) h P := by
  intro p l e R σ m args below meth cd D A Q C ws H locs ls cst hR hP hD hS hL hT hK
  subst hn hx
  obtain ⟨c1, s1, rfl, g1, c2, s2, rfl, ⟨a, x0, ha, rfl⟩, hT⟩ := hT
  have g1 : c1 = .int i := g1
  subst g1
  obtain ⟨g, rfl, hg⟩ := ab_rowR hR ha ht ht2
  obtain ⟨g2, g3⟩ := ab_ro_V (b := D.2.2.1) (hg i.toNatClampNeg)
  have kW := kk g3 p l e R σ m args below meth cd D A Q C ws H locs ls _ hR hP hD hS hL ⟨_, _, rfl, g2, hT⟩ hK
  rcases ht2 with rfl | rfl
  · exact va_aldq (C := RX1) C.1 C.2.1 C.2.2.2.2.2.1.1 hP q 2 ha rfl hin hd kW
  · exact va_aldq (C := RX6) C.1 C.2.1 C.2.2.2.2.2.1.1 hP q 3 ha rfl hin hd kW
theorem ab_iast {i v : Int32} (hx : x = some q) (ht : (ab_shp q).1 = 6) (hin : vp_in i (ab_shp q).2) (hd : decode y.2.1 pc = .ok (.iastore, 1)) (hn : pc + 1 = pc2) (kk : ab_T y d mc ms c s pc2 lo st (ab_ip h q i.toNatClampNeg v) P) : ab_T y d mc ms c s pc lo (.int v :: .int i :: va_rf x :: st) h P := by
  intro p l e R σ m args below meth cd D A Q C ws H locs ls cst hR hP hD hS hL hT hK
  subst hn hx
  obtain ⟨c0, s0, rfl, g0, c1, s1, rfl, g1, c2, s2, rfl, ⟨a, x0, ha, rfl⟩, hT⟩ := hT
  have g0 : c0 = .int v := g0
  have g1 : c1 = .int i := g1
  subst g0 g1
  have e1 := ab_rowI hR ha ht
  subst e1
  refine va_iast C.1 C.2.1 C.2.2.2.2.2.1.1 hP hD hS q 0 ha rfl hin hd fun H1 locs1 hP1 hD1 hS1 => ?_
  have hp := ab_P.set (e := .inl (D.2.1.1, (ab_shp q).2, .inl (upd (ab_i h q) i.toNatClampNeg v))) ha
  refine kk p l e R σ m args below meth cd D A Q C _ H1 locs1 ls _ (hR.set ha rfl (fun r hr j => ?_) (fun _ _ _ => rfl) (fun _ _ _ => rfl) ?_) hP1 hD1 hS1 (hL.mono hp) (hT.mono hp) (fun v2 u2 ws2 H2 locs2 ls2 pc2 cv2 q1 q2 => hK v2 u2 ws2 H2 locs2 ls2 pc2 cv2 q1 (hp.tr q2))
  · show (if r = q ∧ j = i.toNatClampNeg then v else h.2.1 r j) = h.2.1 r j
    rw [if_neg (fun z => hr z.1)]
  · unfold ab_ce
    rw [ht, if_neg (by decide), if_pos rfl]
    have e2 : upd (ab_i h q) i.toNatClampNeg v = ab_i (ab_ip h q i.toNatClampNeg v) q := funext fun j => by
      show (if j = i.toNatClampNeg then v else h.2.1 q j) = (if q = q ∧ j = i.toNatClampNeg then v else h.2.1 q j)
      by_cases hj : j = i.toNatClampNeg
      · rw [if_pos hj, if_pos ⟨rfl, hj⟩]
      · rw [if_neg hj, if_neg (fun z => hj z.2)]
    rw [e2]
theorem ab_last {i : Int32} {v : Int64} (hx : x = some q) (ht : (ab_shp q).1 = 7) (hin : vp_in i (ab_shp q).2) (hd : decode y.2.1 pc = .ok (.lastore, 1)) (hn : pc + 1 = pc2) (kk : ab_T y d mc ms c s pc2 lo st (ab_lp h q i.toNatClampNeg v) P) : ab_T y d mc ms c s pc lo (.long v :: .int i :: va_rf x :: st) h P := by
  intro p l e R σ m args below meth cd D A Q C ws H locs ls cst hR hP hD hS hL hT hK
  subst hn hx
  obtain ⟨c0, s0, rfl, g0, c1, s1, rfl, g1, c2, s2, rfl, ⟨a, x0, ha, rfl⟩, hT⟩ := hT
  have g0 : c0 = .long v := g0
  have g1 : c1 = .int i := g1
  subst g0 g1
  have e1 := ab_rowL hR ha ht
  subst e1
  refine va_last C.1 C.2.1 C.2.2.2.2.2.1.1 hP hD hS q 1 ha rfl hin hd fun H1 locs1 hP1 hD1 hS1 => ?_
  have hp := ab_P.set (e := .inl (D.2.1.2.1, (ab_shp q).2, .inr (.inl (vp_updL (ab_l h q) i.toNatClampNeg v)))) ha
  refine kk p l e R σ m args below meth cd D A Q C _ H1 locs1 ls _ (hR.set ha rfl (fun _ _ _ => rfl) (fun r hr j => ?_) (fun _ _ _ => rfl) ?_) hP1 hD1 hS1 (hL.mono hp) (hT.mono hp) (fun v2 u2 ws2 H2 locs2 ls2 pc2 cv2 q1 q2 => hK v2 u2 ws2 H2 locs2 ls2 pc2 cv2 q1 (hp.tr q2))
  · show (if r = q ∧ j = i.toNatClampNeg then v else h.2.2.1 r j) = h.2.2.1 r j
    rw [if_neg (fun z => hr z.1)]
  · unfold ab_ce
    rw [ht, if_neg (by decide), if_neg (by decide), if_pos rfl]
    have e2 : vp_updL (ab_l h q) i.toNatClampNeg v = ab_l (ab_lp h q i.toNatClampNeg v) q := funext fun j => by
      show (if j = i.toNatClampNeg then v else h.2.2.1 q j) = (if q = q ∧ j = i.toNatClampNeg then v else h.2.2.1 q j)
      by_cases hj : j = i.toNatClampNeg
      · rw [if_pos hj, if_pos ⟨rfl, hj⟩]
      · rw [if_neg hj, if_neg (fun z => hj z.2)]
    rw [e2]
theorem ab_aast {i : Int32} {v : Option Nat} (hx : x = some q) (ht : (ab_shp q).1 = t) (ht2 : t = 8 ∨ t = 9) (hv : ∀ z, v = some z → (ab_shp z).1 = if t = 8 then 4 else 3) (hin : vp_in i (ab_shp q).2) (hd : decode y.2.1 pc = .ok (.aastore, 1)) (hn : pc + 1 = pc2) (kk : ab_T y d mc ms c s pc2 lo st (ab_rp h q i.toNatClampNeg v) P) : ab_T y d mc ms c s pc lo (va_rf v :: .int i :: va_rf x :: st) h P := by
  intro p l e R σ m args below meth cd D A Q C ws H locs ls cst hR hP hD hS hL hT hK
  subst hn hx
  obtain ⟨c0, s0, rfl, g0, c1, s1, rfl, g1, c2, s2, rfl, ⟨a, x0, ha, rfl⟩, hT⟩ := hT
  have g1 : c1 = .int i := g1
  subst g1
  obtain ⟨g, rfl, hg⟩ := ab_rowR hR ha ht ht2
  obtain ⟨gv, rfl, hgv⟩ := ab_V_ro g0 hv
  have kW : ∀ (H1 : Heap) (locs1 : List Loc), va_P D.1 vwCl (ws.set q (a, .inl ((if t = 8 then D.2.1.2.2.1 else D.2.1.2.2.2), (ab_shp q).2, .inr (.inr (.inr (.inr (va_up g i.toNatClampNeg gv))))))) H1 → va_D A (ws.set q (a, .inl ((if t = 8 then D.2.1.2.2.1 else D.2.1.2.2.2), (ab_shp q).2, .inr (.inr (.inr (.inr (va_up g i.toNatClampNeg gv))))))) → va_S A σ.heap H1 locs1 → W p l e R σ m args below meth cd H1 locs1 c s Q (F0 m (pc + 1) ls s2) := by
    intro H1 locs1 hP1 hD1 hS1
    have hp := ab_P.set (e := .inl ((if t = 8 then D.2.1.2.2.1 else D.2.1.2.2.2), (ab_shp q).2, .inr (.inr (.inr (.inr (va_up g i.toNatClampNeg gv)))))) ha
    refine kk p l e R σ m args below meth cd D A Q C _ H1 locs1 ls _ (hR.set ha rfl (fun _ _ _ => rfl) (fun _ _ _ => rfl) (fun r hr j => ?_) ?_) hP1 hD1 hS1 (hL.mono hp) (hT.mono hp) (fun v2 u2 ws2 H2 locs2 ls2 pc2 cv2 q1 q2 => hK v2 u2 ws2 H2 locs2 ls2 pc2 cv2 q1 (hp.tr q2))
    · show (if r = q ∧ j = i.toNatClampNeg then v else h.2.2.2 r j) = h.2.2.2 r j
      rw [if_neg (fun z => hr z.1)]
    · have key : ∀ j, ab_ro (ws.set q (a, .inl ((if t = 8 then D.2.1.2.2.1 else D.2.1.2.2.2), (ab_shp q).2, .inr (.inr (.inr (.inr (va_up g i.toNatClampNeg gv))))))) (if t = 8 then 4 else 3) (ab_r (ab_rp h q i.toNatClampNeg v) q j) (va_up g i.toNatClampNeg gv j) := by
        intro j
        have e1 : ab_r (ab_rp h q i.toNatClampNeg v) q j = if j = i.toNatClampNeg then v else ab_r h q j := by
          show (if q = q ∧ j = i.toNatClampNeg then v else h.2.2.2 q j) = _
          by_cases hj : j = i.toNatClampNeg
          · rw [if_pos hj, if_pos ⟨rfl, hj⟩]
          · rw [if_neg hj, if_neg (fun z => hj z.2)]; rfl
        rw [e1]
        unfold va_up
        by_cases hj : j = i.toNatClampNeg
        · rw [if_pos hj, if_pos hj]
          exact hgv.mono hp
        · rw [if_neg hj, if_neg hj]
          exact (hg j).mono hp
      unfold ab_ce
      rcases ht2 with rfl | rfl
      · rw [ht, if_neg (by decide), if_neg (by decide), if_neg (by decide), if_pos rfl]
        exact ⟨_, rfl, key⟩
      · rw [ht, if_neg (by decide), if_neg (by decide), if_neg (by decide), if_neg (by decide)]
        exact ⟨_, rfl, key⟩
  have hKW := C.2.2.2.2.2.1
  cases v with
  | none =>
    have e1 : gv = none := hgv
    subst e1
    rcases ht2 with rfl | rfl
    · exact va_astqN (C := RX1) C.1 C.2.1 hKW.1 hP hD hS q 2 ha rfl hin hd kW
    · exact va_astqN (C := RX6) C.1 C.2.1 hKW.1 hP hD hS q 3 ha rfl hin hd kW
  | some z =>
    obtain ⟨hz, b, xb, hb, rfl⟩ := hgv
    obtain ⟨ci, fs, hci, rfl, -⟩ := ab_obj hR hb (by rw [hz]; split <;> decide)
    rw [hz] at hci
    rcases ht2 with rfl | rfl
    · have hci : ci ∈ [0, 1, 2, 3, 4, 5, 7, 8] := hci
      by_cases h1 : ci = 1
      · subst h1
        exact va_astq (r := (RX1, TX1, 14)) C.1 C.2.1 hKW.1 hP hD hS q 2 z 1 ha rfl hb rfl hin hd kW
      · have hk : ∃ r : vw_C, vwCl[ci]? = some r ∧ r.1 ∈ ab_kids := by
          simp only [List.mem_cons, List.not_mem_nil, or_false] at hci
          rcases hci with rfl | rfl | rfl | rfl | rfl | rfl | rfl | rfl
          · exact ⟨_, rfl, by decide +kernel⟩
          · exact absurd rfl h1
          · exact ⟨_, rfl, by decide +kernel⟩
          · exact ⟨_, rfl, by decide +kernel⟩
          · exact ⟨_, rfl, by decide +kernel⟩
          · exact ⟨_, rfl, by decide +kernel⟩
          · exact ⟨_, rfl, by decide +kernel⟩
          · exact ⟨_, rfl, by decide +kernel⟩
        obtain ⟨r, hr, hrk⟩ := hk
        exact va_astqO (E := RX1) (r := r) C.1 C.2.1 hKW.1 hP hD hS q 2 z ci ha rfl (hKW.2.2.1 _ hrk) hb hr hin hd kW
    · have hci : ci = 6 := List.mem_singleton.mp hci
      subst hci
      exact va_astq (r := (RX6, TX6, 4)) C.1 C.2.1 hKW.1 hP hD hS q 3 z 6 ha rfl hb rfl hin hd kW
theorem ab_alen (hx : x = some q) (ht : (ab_shp q).1 = 6 ∨ (ab_shp q).1 = 8 ∨ (ab_shp q).1 = 9) (hd : decode y.2.1 pc = .ok (.arraylength, 1)) (hn : pc + 1 = pc2) (kk : ab_T y d mc ms c s pc2 lo (.int (Int32.ofNat (ab_shp q).2) :: st) h P) : ab_T y d mc ms c s pc lo (va_rf x :: st) h P := by
  intro p l e R σ m args below meth cd D A Q C ws H locs ls cst hR hP hD hS hL hT hK
  subst hn hx
  obtain ⟨c2, s2, rfl, ⟨a, x0, ha, rfl⟩, hT⟩ := hT
  have kW := kk p l e R σ m args below meth cd D A Q C ws H locs ls _ hR hP hD hS hL ⟨_, _, rfl, rfl, hT⟩ hK
  rcases ht with ht | ht | ht
  · have e1 := ab_rowI hR ha ht
    subst e1
    exact va_alen (ty := .int) C.1 C.2.1 C.2.2.2.2.2.1.1 hP q 0 ha rfl rfl hd kW
  · obtain ⟨g, rfl, -⟩ := ab_rowR hR ha ht (Or.inl rfl)
    exact va_alen (ty := .object RX1) C.1 C.2.1 C.2.2.2.2.2.1.1 hP q 2 ha rfl rfl hd kW
  · obtain ⟨g, rfl, -⟩ := ab_rowR hR ha ht (Or.inr rfl)
    exact va_alen (ty := .object RX6) C.1 C.2.1 C.2.2.2.2.2.1.1 hP q 3 ha rfl rfl hd kW
/-- System.arraycopy of ints -/
theorem ab_acopy {q2 : Nat} {x2 : Option Nat} {i j n : Int32} (hx : x = some q) (hx2 : x2 = some q2) (ht : (ab_shp q).1 = 6) (ht2 : (ab_shp q2).1 = 6) (hi : ¬ i < 0) (hj : ¬ j < 0) (hn0 : ¬ n < 0) (h1 : i.toNatClampNeg + n.toNatClampNeg ≤ (ab_shp q).2) (h2 : j.toNatClampNeg + n.toNatClampNeg ≤ (ab_shp q2).2)
    (w1 : Cond.methodLink y.1.cls idx arraycopyName ∈ ab_TS) (w2 : Cond.native arraycopyName ∈ ab_TS) (w3 : Cond.static arraycopyName ∈ ab_TS) (w4 : Cond.initialized "java/lang/System" ∈ ab_TS) (hdd : 1 ≤ d) (hlen : st.length ≤ 4) (hd : decode y.2.1 pc = .ok (.invokestatic idx, 3)) (hn : pc + 3 = pc2) (kk : ab_T y d mc ms c s pc2 lo st (ab_cp h q i.toNatClampNeg q2 j.toNatClampNeg n.toNatClampNeg) P) : ab_T y d mc ms c s pc lo (.int n :: .int j :: va_rf x2 :: .int i :: va_rf x :: st) h P := by
  intro p l e R σ m args below meth cd D A Q C ws H locs ls cst hR hP hD hS hL hT hK
  subst hn hx hx2
  obtain ⟨c0, s0, rfl, g0, c1, s1, rfl, g1, c2, s2, rfl, ⟨a2, x2, ha2, rfl⟩, c3, s3, rfl, g3, c4, s4, rfl, ⟨a, x0, ha, rfl⟩, hT⟩ := hT
  have g0 : c0 = .int n := g0
  have g1 : c1 = .int j := g1
  have g3 : c3 = .int i := g3
  subst g0 g1 g3
  have e1 := ab_rowI hR ha ht
  have e2 := ab_rowI hR ha2 ht2
  subst e1 e2
  have hC := C
  obtain ⟨hx, hb, hml, hown, hts, hKW, hfr, hlo, hmc, hms, hA, -⟩ := C
  refine va_copyi (own := y.1.cls) hx hb (hml.trans hL.1.symm) hown (hts _ w1) (hts _ w2) (hts _ w3) (hts _ w4) hKW.1 hP hD hS q q2 0 0 ha ha2 rfl rfl rfl hi hj hn0 h1 h2 (fun _ _ => rfl) (by omega) ?_ hd fun H1 locs1 hP1 hD1 hS1 => ?_
  · have g4 := ab_cats s4
    have g5 := ab_S_len hT
    have g6 : nativeFrameWords "java/lang/System" "arraycopy" 5 + 11 ≤ 56 := by decide +kernel
    omega
  · have hp := ab_P.set (e := .inl (D.2.1.1, (ab_shp q2).2, .inl (va_cpy (ab_i h q) (ab_i h q2) i.toNatClampNeg j.toNatClampNeg n.toNatClampNeg))) ha2
    refine kk p l e R σ m args below meth cd D A Q hC _ H1 locs1 ls _ (hR.set ha2 rfl (fun r hr k => ?_) (fun _ _ _ => rfl) (fun _ _ _ => rfl) ?_) hP1 hD1 hS1 (hL.mono hp) (hT.mono hp) (fun v2 u2 ws2 H2 locs2 ls2 pc2 cv2 q1 q2 => hK v2 u2 ws2 H2 locs2 ls2 pc2 cv2 q1 (hp.tr q2))
    · show (if r = q2 then va_cpy (h.2.1 q) (h.2.1 q2) i.toNatClampNeg j.toNatClampNeg n.toNatClampNeg k else h.2.1 r k) = h.2.1 r k
      rw [if_neg hr]
    · unfold ab_ce
      rw [ht2, if_neg (by decide), if_pos rfl]
      have e3 : va_cpy (ab_i h q) (ab_i h q2) i.toNatClampNeg j.toNatClampNeg n.toNatClampNeg = ab_i (ab_cp h q i.toNatClampNeg q2 j.toNatClampNeg n.toNatClampNeg) q2 := funext fun k => by
        show _ = (if q2 = q2 then va_cpy (h.2.1 q) (h.2.1 q2) i.toNatClampNeg j.toNatClampNeg n.toNatClampNeg k else h.2.1 q2 k)
        rw [if_pos rfl]
        rfl
      rw [e3]
/-- Object.<init> -/
theorem ab_objInit (hx : x = some q) (w1 : Cond.methodLink y.1.cls idx objectInit ∈ ab_TS) (w2 : Cond.instanceMethod objectInit ∈ ab_TS) (w3 : Cond.code objectInit ⟨#[0xb1]⟩ 1 none ∈ ab_TS) (hdd : 1 ≤ d) (hlen : st.length ≤ 4) (hd : decode y.2.1 pc = .ok (.invokespecial idx, 3)) (hn : pc + 3 = pc2) (kk : ab_T y d mc ms c s pc2 lo st h P) : ab_T y d mc ms c s pc lo (va_rf x :: st) h P := by
  intro p l e R σ m args below meth cd D A Q C ws H locs ls cst hR hP hD hS hL hT hK
  subst hn hx
  obtain ⟨c2, s2, rfl, ⟨a, x0, ha, rfl⟩, hT⟩ := hT
  have hC := C
  obtain ⟨hx, hb, hml, hown, hts, hKW, hfr, hlo, hmc, hms, hA, -⟩ := C
  refine W.objInit (own := y.1.cls) hx hb hown (hts _ w1) (hts _ w2) (hts _ w3) (g := F0 m pc ls (.ref a :: s2)) rfl (hL.1.trans hml.symm) rfl hd (by omega) ?_ ?_
  · have g4 := ab_cats s2
    have g5 := ab_S_len hT
    show 2 * 0 + _ + 12 ≤ _
    omega
  · exact kk p l e R σ m args below meth cd D A Q hC ws H locs ls _ hR hP hD hS hL hT hK
/-- Math.min, Math.max -/
theorem ab_mmin {a b : Int32} (w1 : Cond.methodLink y.1.cls idx Lib.Math.min.name ∈ ab_TS) (w2 : Cond.static Lib.Math.min.name ∈ ab_TS) (w3 : Cond.initialized "java/lang/Math" ∈ ab_TS) (w4 : Cond.code Lib.Math.min.name Lib.Math.min.code 2 (some .int) ∈ ab_TS) (hdd : 1 ≤ d) (hlen : st.length ≤ 4) (hc : c ≤ mc) (hs : s ≤ ms) (hd : decode y.2.1 pc = .ok (.invokestatic idx, 3)) (hn : pc + 3 = pc2) (kk : ab_T y d mc ms c s pc2 lo (.int (if b < a then b else a) :: st) h P) : ab_T y d mc ms c s pc lo (.int b :: .int a :: st) h P := by
  intro p l e R σ m args below meth cd D A Q C ws H locs ls cst hR hP hD hS hL hT hK
  subst hn
  obtain ⟨c1, s1, rfl, g1, c2, s2, rfl, g2, hT⟩ := hT
  have g1 : c1 = .int b := g1
  have g2 : c2 = .int a := g2
  subst g1 g2
  have hC := C
  obtain ⟨hx, hb, hml, hown, hts, hKW, hfr, hlo, hmc, hms, hA, -⟩ := C
  have g4 := ab_cats s2
  have g5 := ab_S_len hT
  exact va_mmin (own := y.1.cls) hx hb (hml.trans hL.1.symm) hown (hts _ w1) (hts _ w2) (hts _ w3) (hts _ w4) (by omega) (by omega) (by omega) (by omega) hd (kk p l e R σ m args below meth cd D A Q hC ws H locs ls _ hR hP hD hS hL ⟨_, _, rfl, rfl, hT⟩ hK)
theorem ab_mmax {a b : Int32} (w1 : Cond.methodLink y.1.cls idx Lib.Math.max.name ∈ ab_TS) (w2 : Cond.static Lib.Math.max.name ∈ ab_TS) (w3 : Cond.initialized "java/lang/Math" ∈ ab_TS) (w4 : Cond.code Lib.Math.max.name Lib.Math.max.code 2 (some .int) ∈ ab_TS) (hdd : 1 ≤ d) (hlen : st.length ≤ 4) (hc : c ≤ mc) (hs : s ≤ ms) (hd : decode y.2.1 pc = .ok (.invokestatic idx, 3)) (hn : pc + 3 = pc2) (kk : ab_T y d mc ms c s pc2 lo (.int (if a < b then b else a) :: st) h P) : ab_T y d mc ms c s pc lo (.int b :: .int a :: st) h P := by
  intro p l e R σ m args below meth cd D A Q C ws H locs ls cst hR hP hD hS hL hT hK
  subst hn
  obtain ⟨c1, s1, rfl, g1, c2, s2, rfl, g2, hT⟩ := hT
  have g1 : c1 = .int b := g1
  have g2 : c2 = .int a := g2
  subst g1 g2
  have hC := C
  obtain ⟨hx, hb, hml, hown, hts, hKW, hfr, hlo, hmc, hms, hA, -⟩ := C
  have g4 := ab_cats s2
  have g5 := ab_S_len hT
  exact va_mmax (own := y.1.cls) hx hb (hml.trans hL.1.symm) hown (hts _ w1) (hts _ w2) (hts _ w3) (hts _ w4) (by omega) (by omega) (by omega) (by omega) hd (kk p l e R σ m args below meth cd D A Q hC ws H locs ls _ hR hP hD hS hL ⟨_, _, rfl, rfl, hT⟩ hK)
/-- the law's script -/
theorem ab_sld {i : Int32} {f : UInt32} (hlaw : y.1.name = "law") (hin : vp_in i y.2.2.2.2.1) (hd : decode y.2.1 pc = .ok (.iaload, 1)) (hn : pc + 1 = pc2) (kk : ab_T y d mc ms c s pc2 lo (.int (y.2.2.2.2.2 i.toNatClampNeg) :: st) h P) : ab_T y d mc ms c s pc lo (.int i :: .float f :: st) h P := by
  intro p l e R σ m args below meth cd D A Q C ws H locs ls cst hR hP hD hS hL hT hK
  subst hn
  obtain ⟨c1, s1, rfl, g1, c2, s2, rfl, g2, hT⟩ := hT
  have g1 : c1 = .int i := g1
  have g2 : c2 = .ref D.2.2.1 := g2
  subst g1 g2
  have hC := C
  obtain ⟨hx, hb, hml, hown, hts, hKW, hfr, hlo, hmc, hms, hA, hnm, hlk, hret, hfl, hsc⟩ := C
  obtain ⟨hX, hbl, hbA, -⟩ := hsc.1 hlaw
  exact va_sld hx hb hX hbl hbA hS hin hd (kk p l e R σ m args below meth cd D A Q hC ws H locs ls _ hR hP hD hS hL ⟨_, _, rfl, rfl, hT⟩ hK)
theorem ab_slen {f : UInt32} (hlaw : y.1.name = "law") (hd : decode y.2.1 pc = .ok (.arraylength, 1)) (hn : pc + 1 = pc2) (kk : ab_T y d mc ms c s pc2 lo (.int (Int32.ofNat y.2.2.2.2.1) :: st) h P) : ab_T y d mc ms c s pc lo (.float f :: st) h P := by
  intro p l e R σ m args below meth cd D A Q C ws H locs ls cst hR hP hD hS hL hT hK
  subst hn
  obtain ⟨c2, s2, rfl, g2, hT⟩ := hT
  have g2 : c2 = .ref D.2.2.1 := g2
  subst g2
  have hC := C
  obtain ⟨hx, hb, hml, hown, hts, hKW, hfr, hlo, hmc, hms, hA, hnm, hlk, hret, hfl, hsc⟩ := C
  obtain ⟨hX, hbl, hbA, -⟩ := hsc.1 hlaw
  exact va_slen hx hb hX hbl hbA hS hd (kk p l e R σ m args below meth cd D A Q hC ws H locs ls _ hR hP hD hS hL ⟨_, _, rfl, rfl, hT⟩ hK)
end
end ABN
