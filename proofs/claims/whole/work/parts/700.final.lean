/-! THE CLAIM OUT OF ONE WALK OF THE LAW'S BODY. Your part is whole_start (and what it stands on); all else here is the same for every law, but numbers. -/
def R_law : String := "BackwardYearsLaw"
def lw_P (b : Addr) (xs : List Int32) (args : Array Value) (s : State) : Prop := args = #[.ref b] ∧ s.IntsAt b xs ∧ xs.length ≤ 3072 ∧ (Jvm.Cond.and given_1 narrow_1).before args s = true
def lw_Q (_ : Array Value) (s : State) (o : Outcome) (t : State) : Prop := o = .returned (some (.int 1)) ∧ Framed s o t [] 601024 7293034
def lw_Z (below : List Frame) (a : Array Value) (s : State) : State → Prop := fun t => ∃ o, t.status = .running ∧ Ended t below o ∧ lw_Q a s o t
/-- the law's own end, with 1 on the stack, nothing written that was there before, its room as the claim has it -/
theorem lw_ret {p : Program} {l : Launch} {e : Env} {s : State} {m : MethodId} {below : List Frame} {meth : Method} {c : Code} {b : Nat} (hx : p.tables.exec = Jvm.exec) (hb : c.code = code) (hr : meth.sig.returnType = ret) (hlocks : meth.locks = false) {pc : Nat} {H : Heap} {ls : Array Slot} (hdg : decode code pc = .ok (.ireturn, 1)) : W p l e room_1 s m #[Value.ref b] below meth c H [] 601024 7293034 (lw_Z below #[Value.ref b] s) (F0 m pc ls [.int 1]) := by
  intro T hT X
  obtain ⟨fs, hret, hrun, hended, hW, hframe⟩ := X.leave (v := some (.int 1)) (hlocks := hlocks) (fun h => by rw [hr] at h; cases h)
  have hmeth' : T.vm.method? m = some meth := X.method'
  refine ⟨T.setFrames fs, ?_, .returned (some (.int 1)), hrun, hended, rfl, ⟨_, rfl⟩, hW, hframe⟩
  jvm_step X.here [X.here.top, hx, hb, hdg, hmeth', hr, ret, narrow_b1]
  (try refine ⟨rfl, ?_⟩); (try refine ⟨rfl, ?_⟩)
  first | (intro acts; rw [hret _ acts rfl rfl rfl]) | rw [hret _ _ rfl rfl rfl]
  exact Steps.refl _
/-- what holds at the law's entry: the machine, the code, the tables' words (any of lw_tbl by 'hts w (by decide +kernel)'), the script of L ints xs at the cell b, what the Statement gives of the start (any of its parts by flat_of_before) -/
def lw_At (p : Program) (s : State) (m : MethodId) (meth : Method) (c : Code) (b L : Nat) (xs : Nat → Int32) : Prop :=
  p.tables.exec = Jvm.exec ∧ c.code = code ∧ meth.sig.returnType = ret ∧ c.maxLocals = 8 ∧ s.vm.findClass R_law = some m.cls ∧ (∀ w ∈ lw_tbl, w.before #[Value.ref b] s = true) ∧ va_X b L xs s s.heap ∧ b < s.heap.size ∧ meth.locks = false ∧ (Jvm.Cond.and given_1 narrow_1).before #[Value.ref b] s = true
/-! the start: classes, arrays, nests, statics and strings out of the tables; then the walk of the law (x_L_law) and what it says (law_one) -/
section FIN
variable {s : State} {A : Array Value}
theorem fin_i0 : Cond.instantiable RX0 14 ∈ lw_tbl := (tk_3 _ (List.mem_of_getElem? (i := 4) (by decide +kernel)))
theorem fin_i1 : Cond.instantiable RX1 14 ∈ lw_tbl := (tk_2 _ (List.mem_of_getElem? (i := 34) (by decide +kernel)))
theorem fin_i2 : Cond.instantiable RX2 14 ∈ lw_tbl := (tk_2 _ (List.mem_of_getElem? (i := 202) (by decide +kernel)))
theorem fin_i3 : Cond.instantiable RX3 14 ∈ lw_tbl := (tk_3 _ (List.mem_of_getElem? (i := 25) (by decide +kernel)))
theorem fin_i4 : Cond.instantiable RX4 14 ∈ lw_tbl := (tk_2 _ (List.mem_of_getElem? (i := 160) (by decide +kernel)))
theorem fin_i5 : Cond.instantiable RX5 14 ∈ lw_tbl := (tk_2 _ (List.mem_of_getElem? (i := 223) (by decide +kernel)))
theorem fin_i6 : Cond.instantiable RX6 4 ∈ lw_tbl := (tk_1 _ (List.mem_of_getElem? (i := 133) (by decide +kernel)))
theorem fin_i7 : Cond.instantiable RX7 14 ∈ lw_tbl := (tk_2 _ (List.mem_of_getElem? (i := 181) (by decide +kernel)))
theorem fin_i8 : Cond.instantiable RX8 14 ∈ lw_tbl := (tk_3 _ (List.mem_of_getElem? (i := 46) (by decide +kernel)))
theorem fin_i9 : Cond.instantiable RX9 8 ∈ lw_tbl := (tk_1 _ (List.mem_of_getElem? (i := 31) (by decide +kernel)))
theorem fin_i10 : Cond.instantiable RX10 14 ∈ lw_tbl := (tk_1 _ (List.mem_of_getElem? (i := 74) (by decide +kernel)))
theorem fin_i11 : Cond.instantiable RX11 10 ∈ lw_tbl := (tk_1 _ (List.mem_of_getElem? (i := 23) (by decide +kernel)))
theorem fin_i12 : Cond.instantiable RX12 41 ∈ lw_tbl := (tk_5 _ (List.mem_of_getElem? (i := 111) (by decide +kernel)))
theorem fin_cls (hts : ∀ w ∈ lw_tbl, w.before A s = true) : ∃ (dC : Nat → ClassId) (dI : Nat → Nat → Nat), ∀ (k : Nat) (q : vw_C), vwCl[k]? = some q → u_Kn s q.1 q.2.1 q.2.2 (dC k) (dI k) := by
  have hts2 : ∀ w ∈ ab_TS, w.before A s = true := fun w hw => hts w (ab_TS_tbl w hw)
  obtain ⟨c0, j0, k0⟩ := u_known (C := RX0) (T := TX0) (N := 14) (n := 14) hts2 tl_X0 (hts _ fin_i0)
  obtain ⟨c1, j1, k1⟩ := u_known (C := RX1) (T := TX1) (N := 14) (n := 14) hts2 tl_X1 (hts _ fin_i1)
  obtain ⟨c2, j2, k2⟩ := u_known (C := RX2) (T := TX2) (N := 14) (n := 14) hts2 tl_X2 (hts _ fin_i2)
  obtain ⟨c3, j3, k3⟩ := u_known (C := RX3) (T := TX3) (N := 14) (n := 14) hts2 tl_X3 (hts _ fin_i3)
  obtain ⟨c4, j4, k4⟩ := u_known (C := RX4) (T := TX4) (N := 14) (n := 14) hts2 tl_X4 (hts _ fin_i4)
  obtain ⟨c5, j5, k5⟩ := u_known (C := RX5) (T := TX5) (N := 14) (n := 14) hts2 tl_X5 (hts _ fin_i5)
  obtain ⟨c6, j6, k6⟩ := u_known (C := RX6) (T := TX6) (N := 4) (n := 4) hts2 tl_X6 (hts _ fin_i6)
  obtain ⟨c7, j7, k7⟩ := u_known (C := RX7) (T := TX7) (N := 14) (n := 14) hts2 tl_X7 (hts _ fin_i7)
  obtain ⟨c8, j8, k8⟩ := u_known (C := RX8) (T := TX8) (N := 14) (n := 14) hts2 tl_X8 (hts _ fin_i8)
  obtain ⟨c9, j9, k9⟩ := u_known (C := RX9) (T := TX9) (N := 8) (n := 8) hts2 tl_X9 (hts _ fin_i9)
  obtain ⟨c10, j10, k10⟩ := u_known (C := RX10) (T := TX10) (N := 14) (n := 14) hts2 tl_X10 (hts _ fin_i10)
  obtain ⟨c11, j11, k11⟩ := u_known (C := RX11) (T := TX11) (N := 10) (n := 10) hts2 tl_X11 (hts _ fin_i11)
  obtain ⟨c12, j12, k12⟩ := u_known (C := RX12) (T := TX12) (N := 41) (n := 41) hts2 tl_X12 (hts _ fin_i12)
  refine ⟨fun k => [c0, c1, c2, c3, c4, c5, c6, c7, c8, c9, c10, c11, c12].getD k 0, fun k => [j0, j1, j2, j3, j4, j5, j6, j7, j8, j9, j10, j11, j12].getD k (fun _ => 0), ?_⟩
  intro k q hq
  match k, hq with
  | 0, hq => cases hq; exact k0
  | 1, hq => cases hq; exact k1
  | 2, hq => cases hq; exact k2
  | 3, hq => cases hq; exact k3
  | 4, hq => cases hq; exact k4
  | 5, hq => cases hq; exact k5
  | 6, hq => cases hq; exact k6
  | 7, hq => cases hq; exact k7
  | 8, hq => cases hq; exact k8
  | 9, hq => cases hq; exact k9
  | 10, hq => cases hq; exact k10
  | 11, hq => cases hq; exact k11
  | 12, hq => cases hq; exact k12
  | k + 13, hq => simp [vwCl] at hq
theorem fin_arr (hts : ∀ w ∈ lw_tbl, w.before A s = true) : ∃ (cI cJ cD cS : ClassId), ∀ (k : Nat) (q : ClassId × FieldType), ([(cI, .int), (cJ, .long), (cD, .object "BackwardYears$Deed"), (cS, .object "BackwardYears$Shelf")] : List (ClassId × FieldType))[k]? = some q → ArrOfT s q.1 q.2 ∧ va_RA s q.1 q.2 := by
  obtain ⟨cI, kI, pI, a1, a2, a3⟩ := Cond.arrayClass_spec (hts (.arrayClass .int) (tk_1 _ (List.mem_of_getElem? (i := 130) (by decide +kernel))))
  obtain ⟨cJ, kJ, pJ, b1, b2, b3⟩ := Cond.arrayClass_spec (hts (.arrayClass .long) (tk_7 _ (List.mem_of_getElem? (i := 83) (by decide +kernel))))
  obtain ⟨pD, cD, kD, d1, -, d2, d3, d4⟩ := Cond.arrayOver_spec (hts (.arrayOver (.object "BackwardYears$Deed")) (tk_1 _ (List.mem_of_getElem? (i := 37) (by decide +kernel))))
  obtain ⟨pS, cS, kS, e1, -, e2, e3, e4⟩ := Cond.arrayOver_spec (hts (.arrayOver (.object "BackwardYears$Shelf")) (tk_1 _ (List.mem_of_getElem? (i := 132) (by decide +kernel))))
  refine ⟨cI, cJ, cD, cS, ?_⟩
  intro k q hq
  match k, hq with
  | 0, hq => cases hq; exact ⟨fun N z => ⟨(fun k h => by cases h), kI, a2, pI, a3⟩, a1⟩
  | 1, hq => cases hq; exact ⟨fun N z => ⟨(fun k h => by cases h), kJ, b2, pJ, b3⟩, b1⟩
  | 2, hq => cases hq; exact ⟨fun N z => ⟨(fun k h => by cases h), kD, d2, pD, d3⟩, kD, pD, d2, d3, d1, d4⟩
  | 3, hq => cases hq; exact ⟨fun N z => ⟨(fun k h => by cases h), kS, e2, pS, e3⟩, kS, pS, e2, e3, e1, e4⟩
  | k + 4, hq => simp at hq
theorem fin_in {w : Cond} (h : (decide (w ∈ tables_1_1) || (decide (w ∈ tables_1_3) || (decide (w ∈ tables_1_4) || decide (w ∈ tables_1_7)))) = true) : w ∈ lw_tbl := by
  simp only [Bool.or_eq_true, decide_eq_true_eq] at h
  rcases h with h | h | h | h
  · exact tk_1 _ h
  · exact tk_3 _ h
  · exact tk_4 _ h
  · exact tk_7 _ h
theorem fin_nests : ∀ q ∈ ab_nests, Cond.methodLinkNest q.1 q.2.1 q.2.2.1 q.2.2.2 ∈ lw_tbl := by
  have h : ab_nests.all (fun q => (fun w : Cond => decide (w ∈ tables_1_1) || (decide (w ∈ tables_1_3) || (decide (w ∈ tables_1_4) || decide (w ∈ tables_1_7)))) (Cond.methodLinkNest q.1 q.2.1 q.2.2.1 q.2.2.2)) = true := by decide +kernel
  intro q hq
  exact fin_in (List.all_eq_true.mp h q hq)
theorem fin_kids : ∀ C ∈ ab_kids, Cond.castable C RX1 ∈ lw_tbl := by
  have h : ab_kids.all (fun C => (fun w : Cond => decide (w ∈ tables_1_1) || (decide (w ∈ tables_1_3) || (decide (w ∈ tables_1_4) || decide (w ∈ tables_1_7)))) (Cond.castable C RX1)) = true := by decide +kernel
  intro q hq
  exact fin_in (List.all_eq_true.mp h q hq)
theorem fin_KW (b : Nat) (hts : ∀ w ∈ lw_tbl, w.before A s = true) : ∃ D : ab_G, D.2.2.1 = b ∧ ab_KW D s := by
  obtain ⟨dC, dI, h1⟩ := fin_cls hts
  obtain ⟨cI, cJ, cD, cS, h2⟩ := fin_arr hts
  exact ⟨((dC, dI), (cI, cJ, cD, cS), b, ()), rfl, ⟨h1, h2⟩, fun q hq => va_Nw.of rfl (hts _ (fin_nests q hq)), fun C hC => va_Nw.of rfl (hts _ (fin_kids C hC)), va_AO.of (hts (.arrayOver (.object RX1)) (tk_1 _ (List.mem_of_getElem? (i := 37) (by decide +kernel)))), va_AO.of (hts (.arrayOver (.object RX6)) (tk_1 _ (List.mem_of_getElem? (i := 132) (by decide +kernel))))⟩
theorem fin_ZV (hts : ∀ w ∈ lw_tbl, w.before A s = true) (hg : (Jvm.Cond.and given_1 narrow_1).before A s = true) : ab_ZV s := by
  have hs := flat_of_before _ hg
  obtain ⟨a4, -, -, -, h4, -⟩ := Cond.exactly_spec (hs (.exactly (.string "BackwardYears$Deed" 58) "java/lang/String") (by decide +kernel))
  obtain ⟨a5, -, -, -, h5, -⟩ := Cond.exactly_spec (hs (.exactly (.string "BackwardYears" 256) "java/lang/String") (by decide +kernel))
  obtain ⟨a6, -, -, -, h6, -⟩ := Cond.exactly_spec (hs (.exactly (.string "BackwardYears" 266) "java/lang/String") (by decide +kernel))
  exact ⟨va_Nw.of rfl (hts _ (tk_5 _ (List.mem_of_getElem? (i := 17) (by decide +kernel)))), va_Nw.of rfl (hts _ (tk_5 _ (List.mem_of_getElem? (i := 93) (by decide +kernel)))), va_Nc.of (hs _ (by decide +kernel)), ⟨a4, vk_R.of (hts _ (tk_5 _ (List.mem_of_getElem? (i := 55) (by decide +kernel)))) h4⟩, ⟨a5, vk_R.of (hts _ (tk_5 _ (List.mem_of_getElem? (i := 100) (by decide +kernel)))) h5⟩, ⟨a6, vk_R.of (hts _ (tk_5 _ (List.mem_of_getElem? (i := 108) (by decide +kernel)))) h6⟩⟩
theorem fin_ZZ (hts : ∀ w ∈ lw_tbl, w.before A s = true) (hg : (Jvm.Cond.and given_1 narrow_1).before A s = true) : ab_ZZ (fun q : Nat => s.heap.size ≤ q) s := by
  have hs := flat_of_before _ hg
  have hA : ∀ a : Nat, a < s.heap.size → ¬ (fun q : Nat => s.heap.size ≤ q) a := fun a h => Nat.not_le.mpr h
  exact ⟨vx_Zqof (hts _ (tk_5 _ (List.mem_of_getElem? (i := 42) (by decide +kernel)))) (hts _ (tk_1 _ (List.mem_of_getElem? (i := 16) (by decide +kernel)))) (hs _ (by decide +kernel)) hA, vx_Zqof (hts _ (tk_5 _ (List.mem_of_getElem? (i := 44) (by decide +kernel)))) (hts _ (tk_1 _ (List.mem_of_getElem? (i := 16) (by decide +kernel)))) (hs _ (by decide +kernel)) hA, fin_ZV hts hg⟩
end FIN
/-- the law from its entry: the walk, and the law's answer 1 -/
theorem whole_start {p : Program} {e : Env} {s : State} {m : MethodId} {below : List Frame} {meth : Method} {c : Code} (l : Launch) (hflags : l.flags = flags0) {b L : Nat} {xs : Nat → Int32} (hL : L ≤ 3072) (hnm : meth.name = yL_law.name) (C0 : lw_At p s m meth c b L xs) : W p l e room_1 s m #[Value.ref b] below meth c s.heap [] 0 0 (lw_Z below #[Value.ref b] s) (entryFrame m ([Value.ref b] : List Value).toArray 8) := by
  obtain ⟨hx, hb, hr, hml, hown, hts, hX, hbl, hlocks, hgv⟩ := id C0
  obtain ⟨u, hu⟩ := law_one L hL xs
  obtain ⟨D, rfl, hKW⟩ := fin_KW b hts
  have hZ := fin_ZZ hts hgv
  have hl := lv_entry ([.ref D.2.2.1]) (n := 8) (Nat.le_of_ble_eq_true rfl)
  rw [lg_entry_eq]
  generalize (lg_sl ([.ref D.2.2.1]) ++ List.replicate (8 - (lg_sl ([.ref D.2.2.1])).length) Slot.unset).toArray = ls at hl ⊢
  have hl : lv_has ls 8 [(0, .ref D.2.2.1)] := hl
  refine x_L_law (d := 0) hu p l e room_1 s m _ below meth c D (fun q : Nat => s.heap.size ≤ q) _ ⟨hx, hb, hml, hown, fun w hw => hts w (ab_TS_tbl w hw), hKW, Nat.le_of_ble_eq_true rfl, Nat.le_of_ble_eq_true rfl, Nat.le_refl _, Nat.le_refl _, fun q hq => hq, hnm, hlocks, hr, hflags, fun _ => ⟨hX, hbl, Nat.not_le.mpr hbl, hZ⟩, fun _ hn => absurd rfl hn⟩ [] s.heap [] ls [] ⟨rfl, fun r a x hx => by simp at hx⟩ (fun k q h => by simp at h) ⟨fun i j p q h => by simp at h, fun k q h => by simp at h⟩ va_S.rf ⟨hl.1, hl.2.1, fun i v hv => ?_⟩ rfl ?_
  · match i, hv with
    | 0, hv =>
      cases hv
      exact ⟨.ref D.2.2.1, hl.2.2 (0, .ref D.2.2.1) List.mem_cons_self, rfl⟩
    | 1, hv => cases hv
    | 2, hv => cases hv
    | 3, hv => cases hv
    | 4, hv => cases hv
    | 5, hv => cases hv
    | 6, hv => cases hv
    | 7, hv => cases hv
    | i + 8, hv => simp at hv
  · intro v u' ws' H' locs' ls' pc' cv hpv hpp hR' hP' hD' hS' hvo hri _
    obtain ⟨rfl, -, -⟩ := hpv
    obtain ⟨w, rfl, hvw⟩ := hvo
    have hvw : w = .int 1 := hvw
    subst hvw
    have hri := hri.resolve_right (fun q => q.1 rfl)
    exact va_forget hS'.2.2 (lw_ret hx hb hr hlocks hri.1)
set_option maxHeartbeats 4000000 in
theorem lw_walk (l : Launch) (hflags : l.flags = flags0) (b : Addr) (xs : List Int32) : MetFree l x (headSpec (Jvm.Cond.code x code maxLocals ret :: tables_1) room_1) (lw_P b xs) (fun _ _ _ _ _ => True) lw_Q := by
  refine MetFree.of_bodyS (code := code) (maxLocals := maxLocals) (ret := ret) (by decide) ?_ ?_
  · intro args s m h hn
    obtain ⟨meth, c, h1, h2, h3, h4, h5, h6, -, -⟩ := Cond.code_spec hn (atoms_spec (ws := Jvm.Cond.code x code maxLocals ret :: tables_1) h _ List.mem_cons_self)
    exact ⟨meth, c, h1, h2, h3, h4, h5, h6⟩
  · intro p e s m args below meth c s₁ B hml0 hP _
    obtain ⟨rfl, hx, hbd, hgv⟩ := hP
    obtain ⟨scr, harrAt, hlist, hof, hsmall⟩ := hx
    obtain ⟨hcb, hkn, -, -⟩ := State.arrayAt?_spec harrAt
    have hown : s.vm.findClass R_law = some m.cls := findClass_of_methodNamed B.named
    have hts0 : ∀ c ∈ (Jvm.Cond.code x code maxLocals ret :: tables_1), c.before #[Value.ref b] s = true := atoms_spec (ws := Jvm.Cond.code x code maxLocals ret :: tables_1) B.pre
    have hts : ∀ w ∈ lw_tbl, w.before #[Value.ref b] s = true := k2_hts_sels lw_privs (fun w hw => hts0 w (List.mem_cons_of_mem _ hw)) lw_privs_ok
    have hml : c.maxLocals = 8 := B.maxLocals_eq (hts0 _ List.mem_cons_self)
    have X₀ : Stand p l e room_1 s m #[Value.ref b] below meth c s₁ [] 0 0 := Stand.of_body B
    have hh0 : s₁.heap = s.heap := by rw [B.state]; rfl
    have hsz : scr.slots.size = xs.length := by rw [← Array.length_toList, hlist, List.length_map]
    have hval : ∀ j : Nat, j < xs.length → scr.slots[j]? = some (.int (xs.getD j 0)) := fun j hj => by
      rw [← Array.getElem?_toList, hlist]
      simp [hj]
    have hbl : b < s.heap.size := (Array.getElem?_eq_some_iff.mp hcb).1
    have hX : va_X b xs.length (fun j => xs.getD j 0) s s.heap := ⟨scr, hcb, hof, hkn, hsz, hval⟩
    have K : W p l e room_1 s m #[Value.ref b] below meth c s₁.heap [] 0 0 (lw_Z below #[Value.ref b] s) (entryFrame m ([Value.ref b] : List Value).toArray 8) := by
      rw [hh0]
      exact whole_start l hflags hbd (name_of_methodNamed B.named B.method).1 ⟨B.exec, B.bytes, B.returns, hml, hown, hts, hX, hbl, B.notSynchronized, hgv⟩
    obtain ⟨t, a1, o, b1, b2, b3⟩ := K s₁ rfl X₀
    exact ⟨t, o, a1, b1, b2, b3⟩
theorem lw_pre_spec {args : Array Value} {s : State} (h : (Jvm.Cond.and given_1 narrow_1).before args s = true) (hr : rest_1_c.before args s = true) : ∃ (b : Addr) (xs : List Int32), lw_P b xs args s := by
  have hs := flat_of_before _ h
  have hq := flat_of_before _ hr
  have hc : (Cond.count 1).before args s = true := hs _ (by decide +kernel)
  have harr : (Cond.arrayOf (.arg 0) .int).before args s = true := hs _ (by decide +kernel)
  have hle : (Cond.le (.length (.arg 0)) (.int 3072)).before args s = true := hs _ (by decide +kernel)
  have hlen : (Cond.isInt (.length (.arg 0))).before args s = true := hq _ (by decide +kernel)
  have hall : (Cond.all (.arg 0) (.isInt (.elem (.arg 0) (.index 0)))).before args s = true := hq _ (by decide +kernel)
  obtain ⟨b, xs, hb, hx⟩ := State.ints_of_pre rfl harr hlen hall
  have hsm : xs.length < 2 ^ 31 := hx.choose_spec.2.2.2
  have hev : (Term.length (.arg 0)).eval args s none [] s = some (.int xs.length.toInt32) := hx.length_eval hb
  have hv := Cond.le_ints hev (show (Term.int 3072).eval args s none [] s = some (.int 3072) from rfl)
  have hd : xs.length.toInt32 ≤ 3072 := by
    simpa [Cond.before, Cond.holds, hv] using hle
  have hN : xs.length ≤ 3072 := (Int32.ofNat_le_ofNat hsm (by decide)).mp (show Int32.ofNat xs.length ≤ Int32.ofNat 3072 from hd)
  exact ⟨b, xs, Cond.one_arg hc (show args[0]? = some (.ref b) from hb), hx, hN, h⟩
theorem lw_comes (l : Launch) (hflags : l.flags = flags0) : Comes l x (Jvm.Cond.code x code maxLocals ret :: tables_1) room_1 (fun tb e args s => Calls_1 tb e args s ∧ rest_1 tb e args s ∧ Pre_1 tb e args s)
    (fun _ _ args s o t => lw_Q args s o t) := by
  intro p e ha hc hk s m args below hf hfit hheap happ hpre
  obtain ⟨b, xs, hP⟩ := lw_pre_spec hpre.2.2 hpre.2.1
  obtain ⟨k, o, h1, h2, h3, hQ⟩ := lw_walk l hflags b xs p e ha hc hk s m args below hf ((Spec.applies_iff_loose hf).mp happ).1 hP trivial
  exact ⟨k, o, h1, h2, h3, hQ⟩
theorem lw_frame {s t : State} {o : Outcome} {args : Array Value} (h : Framed s o t [] 601024 7293034) :
    Framed s o t (fieldLocs frame_1_writes args s ++ arrayLocs frame_1_arrays args s ++ staticLocs frame_1_statics s) 601024 7293034 := h
theorem lw_limb (L : Cond) (hL : ∀ (args : Array Value) (s t : State), L.after args s (.returned (some (.int 1))) t = true) :
    ArmFor flags0 classFile x code maxLocals ret World_1 tables_1 room_1 Calls_1 rest_1 Pre_1
      (fun tb e a s o t => postC L tb e a s o t ∧ Framed s o t (fieldLocs frame_1_writes a s ++ arrayLocs frame_1_arrays a s ++ staticLocs frame_1_statics s) 601024 7293034) := by
  intro l hflags _ _ p e ha hc hk s m args below hf hfit hheap happ hpre
  obtain ⟨k, o, h1, h2, h3, rfl, hF⟩ := lw_comes l hflags p e ha hc hk s m args below hf hfit hheap happ hpre
  exact ⟨k, _, h1, h2, h3, hL args s _, lw_frame hF⟩
theorem i_vc : Claimed_1_1 ∧ Claimed_1_2 := ⟨lw_limb limb_1_1 (fun args s t => by simp [limb_1_1, Cond.after, Cond.holds, Cond.value]), lw_limb limb_1_2 (fun args s t => Cond.after_iff.mpr (by
  first | (rw [show limb_1_2 = Cond.eq .result (.int 1) from rfl, Cond.eq_ints (x := 1) (y := 1) rfl rfl]; simp; done) | (simp [limb_1_2, Cond.value, Term.eval]; done)))⟩
