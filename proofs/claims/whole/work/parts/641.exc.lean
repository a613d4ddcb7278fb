/-! ===== BEGIN a method of a class above, found by the receiver, that may throw (follows va_callVU, va_runU of this kit) ===== -/
section
variable {p : Program} {l : Launch} {e : Env} {R : Room} {s : State} {m : MethodId} {args : Array Value} {below : List Frame} {meth : Method} {c : Code} {H : Heap} {locs : List Loc} {cells slots : Nat}
theorem vx_callVU {T : State} {locs : List Loc} {cells slots : Nat} (X : Stand p l e R s m args below meth c T locs cells slots) (hexec : p.tables.exec = Jvm.exec) {own C owner : String} {index : Nat} {x y : MethodName} {bytes : ByteArray} {maxL : Nat} {ret : Option FieldType}
    (hown : s.vm.findClass own = some m.cls) (hlink : (Cond.methodLink own index x).before args s = true) (hsame : (Cond.sameMethod x.cls owner x.name x.desc).before args s = true)
    (hd0 : va_Decl s ⟨owner, x.name, x.desc⟩) (howner : owner ≠ "java/lang/invoke/MethodHandle" ∧ owner ≠ "java/lang/invoke/VarHandle")
    (hsel : (Cond.selects C x y).before args s = true) (hinst : (Cond.instanceMethod y).before args s = true) (hcode : (Cond.code y bytes maxL ret).before args s = true)
    {W : Nat} {Pre : Pt → Array Value → Prop} {Post : Pt → Array Value → Option Value → Pt → Prop} {PostX : Pt → Array Value → Addr → Pt → Prop} (hK : vx_Back l R p e below s args y 3 W Pre Post PostX)
    {b : Addr} {cellB : Cell} (hcell : T.heap[b]? = some cellB) (hobj : cellB.vm.isStatics = false) (hcls : s.vm.findClass C = some cellB.cls)
    {g : JFrame} (hg : g.method = m) (hsize : g.locals.size = c.maxLocals) {argsL rest : List Value} (hlen : ∀ sig, parseMethodDescriptor x.desc = some sig → argsL.length = sig.parameters.length)
    (hstack : g.stack = argsL.reverse ++ .ref b :: rest) (hW : 2 * g.monitorRoom + (rest.map fun v => v.category).sum ≤ W) (hdg : decode c.code g.pc = .ok (.invokevirtual index, 3))
    (hpre : ∀ vm₁, s.WarmedH vm₁ → Pre ⟨T.setVm vm₁, locs, cells, slots⟩ (Value.ref b :: argsL).toArray) :
    (∃ (v : Option Value) (vm₁ : Vm) (B : Pt), s.WarmedH vm₁ ∧ Stand p l e R s m args below meth c B.U B.locs B.cells B.slots ∧ Post ⟨T.setVm vm₁, locs, cells, slots⟩ (Value.ref b :: argsL).toArray v B ∧
      ∀ target, Steps p.tables e below (B.U.setTop { g with pc := g.pc + 3, stack := v.toList ++ rest }) target → Steps p.tables e below (T.setTop g) target) ∨
    (∃ (q : Addr) (vm₁ : Vm) (B : Pt), s.WarmedH vm₁ ∧ Stand p l e R s m args below meth c B.U B.locs B.cells B.slots ∧ PostX ⟨T.setVm vm₁, locs, cells, slots⟩ (Value.ref b :: argsL).toArray q B ∧
      Steps p.tables e below (T.setTop g) ((B.U.setTop { g with stack := rest }).pushFrame (.throwing q))) := by
  obtain ⟨r0, r, hn, hrm, hstR, hsigR⟩ := hd0
  obtain ⟨cn, ck, r1, hcn, hck, hni, hf, hn1⟩ := Cond.sameMethod_found hsame
  cases hn.symm.trans hn1
  obtain ⟨mk, methM, hnamed, hmethM, -, habM⟩ := Cond.instanceMethod_spec hinst
  obtain ⟨c2, r2, m2, q1, q2, q3, q4, kP, hkP, hkPi⟩ := Cond.selects_spec hsel
  cases hcls.symm.trans q1
  cases hf.symm.trans q2
  cases hnamed.symm.trans q3
  have hselP : selectMethod e.platform s.vm cellB.cls r0 = .method mk := by rw [Launch.admits_selectMethod X.admits]; exact q4
  obtain ⟨vm₁, X₁, hstep₁⟩ := X.invokevirtualUp hexec hown hlink hsame howner hn hrm hstR (a := b) (cell := cellB) hcell
    (fun z h => by rw [h] at hobj; cases hobj) hselP hmethM habM hkP hkPi (g := g) hg (argsL := argsL) (rest := rest) (hlen _ hsigR) hstack hdg
  rcases hK m meth c ⟨T.setVm vm₁, locs, cells, slots⟩ { g with stack := rest } (.invokevirtual index) mk (Value.ref b :: argsL).toArray X₁ hg hsize hdg hW (X₁.named hnamed) (hpre vm₁ X₁.warmed) with ⟨v, B, X', hpost, hsteps⟩ | ⟨q, B, X', hpost, hsteps⟩
  · exact Or.inl ⟨v, vm₁, B, X₁.warmed, X', hpost, fun target h => hstep₁ _ fun acts => by rw [doInvoke_state]; exact hsteps.trans h⟩
  · exact Or.inr ⟨q, vm₁, B, X₁.warmed, X', hpost, hstep₁ _ fun acts => by rw [doInvoke_state]; exact hsteps⟩
theorem vx_runU {x y : MethodName} {bytes cc : ByteArray} {maxL nL mc ms n index : Nat} {ret : Option FieldType} {ws : List Cond} {rm : Room} {Pc : Array Value → State → Prop} {Qc : Array Value → State → Outcome → State → Prop} {XC : String → State → State → Prop} {free : Addr → Prop} {Ts : List Cond} {own C owner : String} {b : Addr} {As rest : List Value} {g : JFrame}
    (S : CallFix p m c cc nL s args Ts own) (hM : vx_Met l y ws rm Pc Qc XC mc ms free) (cw : va_CU R s args own C owner index x y bytes maxL ret ws rm mc ms n) (hp : PreV s H C b Pc As)
    (hg : g.method = m) (hn : As.length = n) (hsize : g.locals.size = nL) (hstack : g.stack = As.reverse ++ .ref b :: rest) (hW : 2 * g.monitorRoom + (rest.map fun v => v.category).sum ≤ 8) (hdg : decode cc g.pc = .ok (.invokevirtual index, 3)) (hf : cells + mc ≤ R.cells ∧ slots + ms ≤ R.slots) :
    vx_Run p l e R s m args below meth c H locs cells slots mc ms g rest (Qc (Value.ref b :: As).toArray) XC free := by
  obtain ⟨hrc, hrs, hfr, hlo, hws, hcw⟩ := cw.back
  have hini := cw.init
  have hK : vx_Back l R p e below s args y 3 8 (PreOf R mc ms Pc) (PostOf Qc mc ms free) (vx_Post XC mc ms free) := vx_back (bytes := bytes) (maxL := maxL) (ret := ret) hM hp.1 hrc hrs hfr hlo hws hcw (fun a' U hW => word_at hW (Or.inl (by first | rfl | simp [Cond.onTables, Cond.keeps, Cond.steady])) hini)
  obtain ⟨hx, hb, hml, ho, -⟩ := S
  obtain ⟨-, ⟨cellB, hcB, hoB, hclB⟩, hPc⟩ := hp
  intro T hT X
  rcases vx_callVU X hx (C := C) (owner := owner) (bytes := bytes) (maxL := maxL) (ret := ret) ho cw.link cw.same cw.decl cw.notMH cw.sel cw.inst cw.code hK (by rw [hT]; exact hcB) hoB hclB hg (hsize.trans hml.symm) (argsL := As) (rest := rest) (fun sig h => hn.trans (cw.len sig h)) hstack hW (by rw [hb]; exact hdg)
    (fun vm₁ hW₁ => ⟨hf.1, hf.2, hPc (T.setVm vm₁) hT hW₁⟩) with ⟨v, vm₁, ⟨U', l2, c2, s2⟩, hW₁, X', ⟨g', mk, t, L, e1, e2, hq, h1, hL, h2, h3⟩, st⟩ | ⟨q, vm₁, ⟨U', l2, c2, s2⟩, hW₁, X', ⟨g', mk, t, L, E, ce, e1, e2, hq, hce, hcv, hcl, h1, hL, h2, h3⟩, st⟩
  · dsimp only [Pt.U, Pt.locs, Pt.cells, Pt.slots] at X' e1 e2 h1 h2 h3 st
    subst h1; subst h2; subst h3
    exact Or.inl ⟨v, (T.setVm vm₁).calling g' mk (Value.ref b :: As).toArray, t, U', L, hT, X', hL, e1, e2, hq, st⟩
  · dsimp only [Pt.U, Pt.locs, Pt.cells, Pt.slots] at X' e1 e2 h1 h2 h3 st hcl
    subst h1; subst h2; subst h3
    exact Or.inr ⟨q, (T.setVm vm₁).calling g' mk (Value.ref b :: As).toArray, t, U', L, E, ce, hT, X', hL, e1, e2, hq, hce, hcv, vx_cls hW₁ hcl, st⟩
end
/-! ===== END ===== -/
section ABE
/-! methods that throw, and those that catch what they call throws -/
abbrev ez_S : String := "java/lang/IllegalStateException"
abbrev ez_A : String := "java/lang/IllegalArgumentException"
def ez_N : List String := ["java/lang/RuntimeException", "java/lang/Exception"]
def ez_D : List Cond := [Cond.declares (Bundle.initS "java/lang/RuntimeException"), Cond.declares (Bundle.initS "java/lang/Exception"), Cond.declares (Bundle.initS "java/lang/Throwable")]
theorem ez_decl {args : Array Value} {s : State} {x : MethodName} {b : ByteArray} {m : Nat} {ret : Option FieldType} (hi : (Cond.instanceMethod x).before args s = true) (hc : (Cond.code x b m ret).before args s = true) : (Cond.declares x).before args s = true := by
  obtain ⟨r0, r, hn, hrm, hst, hsig⟩ := va_Decl.of hi hc
  simp [Cond.before, Cond.holds, Cond.value, hn, hrm, hst, hsig]
theorem ez_in5 {w : Cond} (h : (decide (w ∈ tables_1_5) && goodWord w) = true) : w ∈ ab_TS := by
  simp only [Bool.and_eq_true, decide_eq_true_eq] at h
  exact ab_TS_in (tk_5 _ h.1) h.2
theorem ez_decls {args : Array Value} {s : State} (hts : ∀ w ∈ ab_TS, w.before args s = true) : ∀ w ∈ ez_D, w.before args s = true :=
  vx_c (ez_decl (hts _ (ez_in5 (by decide +kernel))) (hts (.code (Bundle.initS "java/lang/RuntimeException") prog_20_method_2_code 2 none) (ez_in5 (by decide +kernel)))) (vx_c (ez_decl (hts _ (ez_in5 (by decide +kernel))) (hts (.code (Bundle.initS "java/lang/Exception") prog_15_method_2_code 2 none) (ez_in5 (by decide +kernel)))) (vx_c (ez_decl (hts _ (ez_in5 (by decide +kernel))) (hts (.code (Bundle.initS "java/lang/Throwable") prog_23_method_2_code 2 none) (ez_in5 (by decide +kernel)))) vx_n))
/-- the words that a throw of E out of class own needs, by the tables -/
def ez_Wd (own : String) (ik ic : Nat) (E : String) : Prop := Cond.classLink own ik E ∈ ab_TS ∧ Cond.initialized E ∈ ab_TS ∧ (∀ w ∈ (vx_atS own ic E ez_N).filter goodWord, w ∈ ab_TS) ∧ (∀ w ∈ (vx_atS own ic E ez_N).filter (fun w => !goodWord w), w ∈ Cond.castable E E :: ez_D) ∧ (∀ w ∈ Cond.classLink own ik E :: Cond.initialized E :: vx_atS own ic E ez_N, vx_ot w = true)
theorem ez_all {L : List Cond} (h : (L.filter goodWord).all (fun w => decide (w ∈ tables_1_5) || (decide (w ∈ tables_1_1) || decide (w ∈ tables_1_7))) = true) : ∀ w ∈ L.filter goodWord, w ∈ ab_TS := by
  intro w hw
  have h1 := List.all_eq_true.mp h w hw
  have hg := (List.mem_filter.mp hw).2
  simp only [Bool.or_eq_true, decide_eq_true_eq] at h1
  rcases h1 with h1 | h1 | h1
  · exact ab_TS_in (tk_5 _ h1) hg
  · exact ab_TS_in (tk_1 _ h1) hg
  · exact ab_TS_in (tk_7 _ h1) hg
theorem ez_bad {L B : List Cond} (h : (L.filter (fun w => !goodWord w)).all (fun w => decide (w ∈ B)) = true) : ∀ w ∈ L.filter (fun w => !goodWord w), w ∈ B := fun w hw => of_decide_eq_true (List.all_eq_true.mp h w hw)
theorem ez_good {L : List Cond} (h : L.all vx_ot = true) : ∀ w ∈ L, vx_ot w = true := fun w hw => List.all_eq_true.mp h w hw
theorem ez_w56 : ez_Wd RX1 56 60 ez_S := ⟨ab_TS_in (tk_5 _ (List.mem_of_getElem? (i := 15) (by decide +kernel))) (by decide +kernel), ab_TS_in (tk_1 _ (List.mem_of_getElem? (i := 20) (by decide +kernel))) (by decide +kernel), ez_all (by decide +kernel), ez_bad (by decide +kernel), ez_good (by decide +kernel)⟩
theorem ez_w254 : ez_Wd RX11 254 258 ez_A := ⟨ab_TS_in (tk_5 _ (List.mem_of_getElem? (i := 91) (by decide +kernel))) (by decide +kernel), ab_TS_in (tk_1 _ (List.mem_of_getElem? (i := 19) (by decide +kernel))) (by decide +kernel), ez_all (by decide +kernel), ez_bad (by decide +kernel), ez_good (by decide +kernel)⟩
theorem ez_w264 : ez_Wd RX11 264 268 ez_S := ⟨ab_TS_in (tk_5 _ (List.mem_of_getElem? (i := 2) (by decide +kernel))) (by decide +kernel), ab_TS_in (tk_1 _ (List.mem_of_getElem? (i := 20) (by decide +kernel))) (by decide +kernel), ez_all (by decide +kernel), ez_bad (by decide +kernel), ez_good (by decide +kernel)⟩
theorem ez_l13 : Cond.classLink RL 13 ez_A ∈ ab_TS := ab_TS_in (tk_5 _ (List.mem_of_getElem? (i := 85) (by decide +kernel))) (by decide +kernel)
theorem ez_l15 : Cond.classLink RL 15 ez_S ∈ ab_TS := ab_TS_in (tk_5 _ (List.mem_of_getElem? (i := 86) (by decide +kernel))) (by decide +kernel)
theorem ez_l264 : Cond.classLink RX11 264 ez_S ∈ ab_TS := ez_w264.1
/-- .. and what else it needs -/
def ez_Hd (own : String) (is : Nat) (E tx : String) : Prop := ∀ U : State, ab_ZV U → va_Nw (.castable E E) U ∧ ∃ a, vk_R own is tx a U
theorem ez_h58 : ez_Hd RX1 58 ez_S "a deed fails" := fun _ h => ⟨h.1, h.2.2.2.1⟩
theorem ez_h256 : ez_Hd RX11 256 ez_A "no such shelf" := fun _ h => ⟨h.2.1, h.2.2.2.2.1⟩
theorem ez_h266 : ez_Hd RX11 266 ez_S "no row, or no such place" := fun _ h => ⟨h.1, h.2.2.2.2.2⟩
theorem ez_traces {l : Launch} (h : l.flags = flags0) : l.stackTraces = false := by
  unfold Launch.stackTraces
  rw [h]
  decide
/-- thrown: E, the world as h has it -/
def ab_XC (E0 : String) (h : ab_HP) (D : ab_G) (ws : va_W) (sz : Nat) : String → State → State → Prop := fun E st t =>
  E = E0 ∧ (∃ ws' : va_W, ab_P ws ws' ∧ ab_R D h ws' ∧ va_P D.1 vwCl ws' t.heap ∧ va_D (va_A ws sz) ws') ∧ va_F (va_A ws sz) st t
/-- THE CONTRACT of a method that throws at arguments as and a world h -/
def ab_METX (y : ab_M) (d mc ms : Nat) (as : List Value) (h : ab_HP) (E : String) : Prop :=
  ∀ (l : Launch), l.flags = flags0 → ∀ (D : ab_G) (ws : va_W) (sz : Nat) (cas : List Value), ab_R D h ws → ab_S D.2.2.1 ws as cas →
    vx_Met l y.1 (ab_ws y) (ab_rm d mc ms) (va_Pc cas (fun U => ab_Wd D ws sz U ∧ ab_ZZ (va_A ws sz) U)) (fun _ _ _ _ => False) (ab_XC E h D ws sz) mc ms (va_A ws sz)
theorem ab_XC_of {E : String} {h : ab_HP} {D : ab_G} {ws ws' : va_W} {s t : State} {H' : Heap} {locs' : List Loc} (hpp : ab_P ws ws') (hR : ab_R D h ws') (hP : va_P D.1 vwCl ws' H') (hD : va_D (va_A ws s.heap.size) ws') (hS : va_S (va_A ws s.heap.size) s.heap H' locs') (hz : H'.size ≤ t.heap.size) (hq : ∀ q : Nat, q < H'.size → t.heap[q]? = H'[q]?) : ab_XC E h D ws s.heap.size E s t :=
  ⟨rfl, ⟨ws', hpp, hR, hP.kept (fun k q hk => hq _ (vx_lt hP hk)), hD⟩, Nat.le_trans hS.1 hz, fun q h1 h2 => by rw [hq q (Nat.lt_of_lt_of_le h1 hS.1)]; exact hS.2.1 q h1 h2⟩
/-- a method whose walk comes to 'throw new E(text)', the text by a wide index -/
theorem ab_metT {y : ab_M} {d pc0 ik is ic : Nat} {as : List Value} {h : ab_HP} {lo : List (Option Value)} {E tx : String} (hE : Bundle.fit E = true) (hp : plainName y.1.cls = true) (hlaw : y.1.name ≠ "law") (hlen : (ab_lo as).length ≤ y.2.2.1) (hlo : ab_lo0 as y.2.2.1 = lo) (h0 : y.2.2.2.2.1 = 1000 + pc0) (hhh : ab_hh y.1 = []) (hret : y.2.2.2.1 ≠ none)
    (hw : ez_Wd y.1.cls ik ic E) (hd : ez_Hd y.1.cls is E tx) (d0 : decode y.2.1 pc0 = .ok (.new ik, 3)) (d3 : decode y.2.1 (pc0 + 3) = .ok (.dup, 1)) (d4 : decode y.2.1 (pc0 + 4) = .ok (.ldc_w is, 3)) (d7 : decode y.2.1 (pc0 + 7) = .ok (.invokespecial ic, 3)) (d10 : decode y.2.1 (pc0 + 10) = .ok (.athrow, 1))
    (hT : ab_T y (d + 6) 0 0 0 0 0 lo [] h (ab_Pv h)) : ab_METX y (d + 6) 1 6 as h E := by
  intro l hfl D ws sz cas hR hS0
  refine vx_ofW (cc := y.2.1) (maxL := y.2.2.1) (ret := y.2.2.2.1) hp rfl ?_
  intro p e s m args below meth c s₁ B hml hempty hv
  obtain ⟨rfl, ⟨hsz, hP, hKW, hD0⟩, hZ⟩ := hv
  subst hsz
  have hts := atoms_spec (ws := ab_ws y) B.pre
  have hts2 : ∀ w ∈ ab_TS, w.before cas.toArray s = true := fun w hw => hts w (List.mem_cons_of_mem _ hw)
  have hD := hD0.self (sz := s.heap.size)
  have hlen2 : (lg_sl cas).length ≤ y.2.2.1 := by rw [ab_lo_len hS0]; exact hlen
  rw [lg_entry_eq]
  have hl := lv_entry cas (n := y.2.2.1) hlen2
  generalize (lg_sl cas ++ List.replicate (y.2.2.1 - (lg_sl cas).length) Slot.unset).toArray = ls at hl ⊢
  have hr := B.returns
  have hlocks := B.notSynchronized
  have htb : c.exceptionTable.toList = [] := List.eq_nil_iff_forall_not_mem.mpr hempty
  obtain ⟨w1, w2, w3, w4, w5⟩ := hw
  obtain ⟨hca, sa, hst⟩ := hd s hZ.2.2
  have hown := findClass_of_methodNamed B.named
  refine hT p l e _ s m _ below meth c D (va_A ws s.heap.size) _ ⟨B.exec, B.bytes, hml, hown, hts2, hKW, Nat.le_refl _, Nat.le_refl _, Nat.zero_le _, Nat.zero_le _, fun q hq => Or.inr hq, (name_of_methodNamed B.named B.method).1, hlocks, hr, hfl, fun q => absurd q hlaw, fun _ _ => ⟨hZ, by rw [htb, hhh]; rfl⟩⟩ ws s.heap [] ls [] hR hP hD va_S.rf ⟨hl.1, hl.2.1, fun i v hv => ?_⟩ rfl ?_
  · subst hlo
    obtain ⟨cv, g1, g2⟩ := ab_lo_at 0 hS0 i v (ab_lo0_in hv)
    rw [Nat.zero_add] at g1
    exact ⟨cv, hl.2.2 _ g1, g2⟩
  · intro v u ws' H' locs' ls' pc' cv hpv hpp hR' hP' hD' hS' hvo hri hsz'
    obtain ⟨rfl, rfl⟩ := hpv
    have hvo : cv = none := hvo
    subst hvo
    have hpc : pc' = pc0 := by
      rcases hri with ⟨-, q⟩ | q
      · exact absurd q hret
      · have := q.2
        omega
    subst hpc
    exact vx_throwSW (A := va_A ws s.heap.size) B.exec B.bytes (ez_traces hfl) (own := y.1.cls) (cls := E) (text := tx) (names := ez_N) (ik := ik) (is := is) (ic := ic) (sa := sa) hown hE (by decide +kernel) (hts2 _ w1) (hts2 _ w2) hst (vx_hat (fun w hw => hts2 _ (w3 w hw)) w4 (vx_c (va_Nw.use rfl hca) (ez_decls hts2))) w5 hZ.1 hZ.2.1 hS' (hsz'.trans hml.symm) d0 d3 d4 d7 d10 (fun x hx => by rw [htb] at hx; cases hx) (by show 2 + 3 < d + 6; omega) (by show 0 + (13 * (2 + 1) + 43) ≤ 64 * (d + 6); omega) (Nat.le_refl _) (Nat.le_refl _) hlocks (fun t _ hz hq => ab_XC_of hpp hR' hP' hD' hS' hz hq) hS'.2.2 (Nat.le_refl _) (Nat.le_refl _)
/-- a method whose walk comes to 'if (x) throw new E(text)' with x on the stack -/
theorem ab_metTI {y : ab_M} {d pc0 ik is ic : Nat} {off : Int} {tgt : Nat} {x : Int32} {as : List Value} {h : ab_HP} {lo : List (Option Value)} {E tx : String} (hE : Bundle.fit E = true) (hp : plainName y.1.cls = true) (hlaw : y.1.name ≠ "law") (hlen : (ab_lo as).length ≤ y.2.2.1) (hlo : ab_lo0 as y.2.2.1 = lo) (h0 : y.2.2.2.2.1 = 1000 + pc0) (hhh : ab_hh y.1 = []) (hret : y.2.2.2.1 = none)
    (hw : ez_Wd y.1.cls ik ic E) (hd : ez_Hd y.1.cls is E tx) (di : decode y.2.1 pc0 = .ok (.ifCond .eq off, 3)) (ht : (pc0 : Int) + off = (tgt : Int)) (d0 : decode y.2.1 (pc0 + 3) = .ok (.new ik, 3)) (d3 : decode y.2.1 (pc0 + 3 + 3) = .ok (.dup, 1)) (d4 : decode y.2.1 (pc0 + 3 + 4) = .ok (.ldc is, 2)) (d6 : decode y.2.1 (pc0 + 3 + 6) = .ok (.invokespecial ic, 3)) (d9 : decode y.2.1 (pc0 + 3 + 9) = .ok (.athrow, 1))
    (hx : ¬ x = 0) (hT : ab_T y (d + 6) 0 0 0 0 0 lo [] h (ab_Pi x h)) : ab_METX y (d + 6) 1 6 as h E := by
  intro l hfl D ws sz cas hR hS0
  refine vx_ofW (cc := y.2.1) (maxL := y.2.2.1) (ret := y.2.2.2.1) hp rfl ?_
  intro p e s m args below meth c s₁ B hml hempty hv
  obtain ⟨rfl, ⟨hsz, hP, hKW, hD0⟩, hZ⟩ := hv
  subst hsz
  have hts := atoms_spec (ws := ab_ws y) B.pre
  have hts2 : ∀ w ∈ ab_TS, w.before cas.toArray s = true := fun w hw => hts w (List.mem_cons_of_mem _ hw)
  have hD := hD0.self (sz := s.heap.size)
  have hlen2 : (lg_sl cas).length ≤ y.2.2.1 := by rw [ab_lo_len hS0]; exact hlen
  rw [lg_entry_eq]
  have hl := lv_entry cas (n := y.2.2.1) hlen2
  generalize (lg_sl cas ++ List.replicate (y.2.2.1 - (lg_sl cas).length) Slot.unset).toArray = ls at hl ⊢
  have hr := B.returns
  have hlocks := B.notSynchronized
  have htb : c.exceptionTable.toList = [] := List.eq_nil_iff_forall_not_mem.mpr hempty
  obtain ⟨w1, w2, w3, w4, w5⟩ := hw
  obtain ⟨hca, sa, hst⟩ := hd s hZ.2.2
  have hown := findClass_of_methodNamed B.named
  refine hT p l e _ s m _ below meth c D (va_A ws s.heap.size) _ ⟨B.exec, B.bytes, hml, hown, hts2, hKW, Nat.le_refl _, Nat.le_refl _, Nat.zero_le _, Nat.zero_le _, fun q hq => Or.inr hq, (name_of_methodNamed B.named B.method).1, hlocks, hr, hfl, fun q => absurd q hlaw, fun _ _ => ⟨hZ, by rw [htb, hhh]; rfl⟩⟩ ws s.heap [] ls [] hR hP hD va_S.rf ⟨hl.1, hl.2.1, fun i v hv => ?_⟩ rfl ?_
  · subst hlo
    obtain ⟨cv, g1, g2⟩ := ab_lo_at 0 hS0 i v (ab_lo0_in hv)
    rw [Nat.zero_add] at g1
    exact ⟨cv, hl.2.2 _ g1, g2⟩
  · intro v u ws' H' locs' ls' pc' cv hpv hpp hR' hP' hD' hS' hvo hri hsz'
    obtain ⟨rfl, rfl⟩ := hpv
    obtain ⟨w, rfl, hvw⟩ := hvo
    have hvw : w = .int x := hvw
    subst hvw
    have hpc : pc' = pc0 := by
      rcases hri with ⟨-, q⟩ | q
      · rw [hret] at q
        rcases q with q | ⟨q, -⟩ <;> cases q
      · have := q.2
        omega
    subst hpc
    refine lv_if_eq B.exec B.bytes di ht (fun q => absurd q hx) (fun _ => ?_)
    exact vx_throwS (A := va_A ws s.heap.size) B.exec B.bytes (ez_traces hfl) (own := y.1.cls) (cls := E) (text := tx) (names := ez_N) (ik := ik) (is := is) (ic := ic) (sa := sa) hown hE (by decide +kernel) (hts2 _ w1) (hts2 _ w2) hst (vx_hat (fun w hw => hts2 _ (w3 w hw)) w4 (vx_c (va_Nw.use rfl hca) (ez_decls hts2))) w5 hZ.1 hZ.2.1 hS' (hsz'.trans hml.symm) d0 d3 d4 d6 d9 (fun x hx => by rw [htb] at hx; cases hx) (by show 2 + 3 < d + 6; omega) (by show 0 + (13 * (2 + 1) + 43) ≤ 64 * (d + 6); omega) (Nat.le_refl _) (Nat.le_refl _) hlocks (fun t _ hz hq => ab_XC_of hpp hR' hP' hD' hS' hz hq) hS'.2.2 (Nat.le_refl _) (Nat.le_refl _)
/-- a method with a table of its own, out of its walk from the entry -/
theorem ab_metW {y : ab_M} {hh : List (Nat × Nat × Nat × Nat)} {d mc ms : Nat} {as : List Value} {h : ab_HP} {P : Option Value → ab_HP → Prop} {lo : List (Option Value)} (hp : plainName y.1.cls = true) (hlaw : y.1.name ≠ "law") (hlen : (ab_lo as).length ≤ y.2.2.1) (hlo : ab_lo0 as y.2.2.1 = lo) (h0 : y.2.2.2.2.1 = 1) (hhh : ab_hh y.1 = hh) (hT : ab_T y d mc ms 0 0 0 lo [] h P) : ab_METW y hh d mc ms as h P := by
  intro l hfl D ws sz cas hR hS0
  refine va_MetW (cc := y.2.1) (maxL := y.2.2.1) (ret := y.2.2.2.1) (hh := hh) hp rfl ?_
  intro p e s m args below meth c s₁ B hml hv
  obtain ⟨rfl, ⟨hsz, hP, hKW, hD0⟩, hZ⟩ := hv
  subst hsz
  have hts := atoms_spec (ws := ab_wsW y hh) B.pre
  have htb := vx_table (x := y.1) B (hts (ab_codeW y hh) List.mem_cons_self)
  have hD := hD0.self (sz := s.heap.size)
  have hlen2 : (lg_sl cas).length ≤ y.2.2.1 := by rw [ab_lo_len hS0]; exact hlen
  rw [lg_entry_eq]
  have hl := lv_entry cas (n := y.2.2.1) hlen2
  generalize (lg_sl cas ++ List.replicate (y.2.2.1 - (lg_sl cas).length) Slot.unset).toArray = ls at hl ⊢
  have hr := B.returns
  have hlocks := B.notSynchronized
  refine hT p l e _ s m _ below meth c D (va_A ws s.heap.size) _ ⟨B.exec, B.bytes, hml, findClass_of_methodNamed B.named, fun w hw => hts w (List.mem_cons_of_mem _ hw), hKW, Nat.le_refl _, Nat.le_refl _, Nat.le_refl _, Nat.le_refl _, fun q hq => Or.inr hq, (name_of_methodNamed B.named B.method).1, hlocks, hr, hfl, fun q => absurd q hlaw, fun _ _ => ⟨hZ, by rw [htb, hhh]⟩⟩ ws s.heap [] ls [] hR hP hD va_S.rf ⟨hl.1, hl.2.1, fun i v hv => ?_⟩ rfl ?_
  · subst hlo
    obtain ⟨cv, g1, g2⟩ := ab_lo_at 0 hS0 i v (ab_lo0_in hv)
    rw [Nat.zero_add] at g1
    exact ⟨cv, hl.2.2 _ g1, g2⟩
  · intro v u ws' H' locs' ls' pc' cv hpv hpp hR' hP' hD' hS' hvo hri _
    have hnx : ¬ ab_XT y pc' := fun q => by have := q.2; rw [h0] at this; omega
    have hq : ∀ t : State, t.heap = H' → ab_Qc P D ws s.heap.size cas.toArray s (.returned cv) t := fun t ht =>
      ⟨⟨v, u, ws', cv, rfl, hpv, hvo, hpp, hR', by rw [ht]; exact hP', hD'⟩, hS'.F ht⟩
    cases v with
    | none =>
      have hvo : cv = none := hvo
      subst hvo
      have hri := hri.resolve_right hnx
      exact W.vret B.exec B.bytes (hr.trans hri.2) (fun t ht _ => hq t ht) hS'.2.2 hri.1
    | some v =>
      obtain ⟨w, rfl, hvw⟩ := hvo
      cases v with
      | int x =>
        have hvw : w = .int x := hvw
        subst hvw
        have hri := hri.resolve_right hnx
        rcases hri.2 with h1 | ⟨h1, h2⟩
        · exact W.iret B.exec B.bytes (hr.trans h1) (fun t ht _ => hq t ht) hS'.2.2 hri.1
        · exact W.zret B.exec B.bytes (hr.trans h1) (by rcases h2 with rfl | rfl <;> rfl) (fun t ht _ => hq t ht) hS'.2.2 hri.1
      | long x =>
        have hvw : w = .long x := hvw
        subst hvw
        exact W.lret B.exec B.bytes (hr.trans hri.2) (fun t ht _ => hq t ht) hS'.2.2 hri.1
      | ref q =>
        obtain ⟨n, hn⟩ := hri.2
        obtain ⟨a, x0, -, rfl⟩ := hvw
        exact W.aret B.exec B.bytes (hr.trans hn) (Or.inl ⟨n, rfl⟩) (Or.inr ⟨a, rfl⟩) (fun t ht _ => hq t ht) hS'.2.2 hri.1
      | null =>
        obtain ⟨n, hn⟩ := hri.2
        have hvw : w = .null := hvw
        subst hvw
        exact W.aret B.exec B.bytes (hr.trans hn) (Or.inl ⟨n, rfl⟩) (Or.inl rfl) (fun t ht _ => hq t ht) hS'.2.2 hri.1
      | _ => exact hri.elim
/-- a local that holds what the abstract world doesn't know -/
theorem ab_L_skip {b : Nat} {ws : va_W} {n i : Nat} {lo : List (Option Value)} {ls ls' : Array Slot} {cv : Value} (hL : ab_L b ws n lo ls) (h : lv_has ls' n ((i, cv) :: (ab_all ls).filter (fun q => !(q.1 == i) && !(q.1 + 1 == i && q.2.category == 2)))) : ab_L b ws n ((ab_st1 lo i .null).set i none) ls' := by
  refine ⟨h.1, h.2.1, fun j w hj => ?_⟩
  have hji : j ≠ i := by
    intro q
    subst q
    have hl := (List.getElem?_eq_some_iff.mp hj).1
    rw [List.length_set] at hl
    rw [List.getElem?_set_self hl] at hj
    exact absurd hj (by simp)
  rw [List.getElem?_set_ne (Ne.symm hji)] at hj
  rcases ab_st1_in hj with ⟨e, -⟩ | ⟨g1, g2, g3⟩
  · exact absurd e hji
  · obtain ⟨cw, g4, g5⟩ := hL.2.2 j w g2
    refine ⟨cw, h.2.2 (j, cw) (List.mem_cons_of_mem _ (List.mem_filter.mpr ⟨ab_all_in g4, ?_⟩)), g5⟩
    rw [ab_Vcat g5 |>.symm] at g3
    simp only [Bool.and_eq_true, Bool.not_eq_true', beq_eq_false_iff_ne, Bool.and_eq_false_imp, beq_iff_eq, ne_eq]
    exact ⟨g1, fun q r => g3 ⟨q, r⟩⟩
section
variable {y z : ab_M} {d mc ms c s d' mc' ms' idx pc : Nat} {lo lo2 : List (Option Value)} {as st stk : List Value} {h : ab_HP} {P : Option Value → ab_HP → Prop}
/-- a method is called that throws E; a row of this method's table takes it; the handler begins by putting it away -/
theorem ab_callVX {q t j : Nat} {o : Option Nat} {E : String} {pre suf : List ExceptionTableEntry} {xx : ExceptionTableEntry} (h1 : 1 ≤ y.2.2.2.2.1) (hnl : y.1.name ≠ "law") (ho : o = some q) (ht : (ab_shp q).1 = t) (ht6 : t < 6) (hM : ab_METX z d' mc' ms' (va_rf (some q) :: as) h E) (mf : ab_MF z as.length) (hlk : Cond.methodLink y.1.cls idx z.1 ∈ ab_TS) (hins : Cond.instanceMethod z.1 ∈ ab_TS)
    (hsel : (∀ ci ∈ ab_cls t, ∃ r : vw_C, vwCl[ci]? = some r ∧ Cond.selects r.1 z.1 z.1 ∈ ab_TS)) (hsame : (∀ ci ∈ ab_cls t, (vwCl[ci]?.map fun r => r.1) = some z.1.cls) ∨ Cond.sameMethod z.1.cls z.1.cls z.1.name z.1.desc ∈ ab_TS) (hd : decode y.2.1 pc = .ok (.invokevirtual idx, 3)) (hdd : d' + 1 ≤ d) (hc : c + mc' ≤ mc) (hs : s + ms' ≤ ms)
    (hst : as.reverse ++ va_rf o :: st = stk) (hlen : st.length ≤ 4)
    (htab : tableOf (ab_hh y.1) = pre ++ xx :: suf) (hpass : ∀ z ∈ pre, covers z pc = false ∨ (z.catchType ≠ 0 ∧ ∃ nm : String, Cond.classLink y.1.cls z.catchType nm ∈ ab_TS ∧ ∀ U : State, ab_ZV U → va_Nc E nm U)) (hcov : covers xx pc = true) (h0 : xx.catchType ≠ 0) (hcl : Cond.classLink y.1.cls xx.catchType E ∈ ab_TS) (hca : ∀ U : State, ab_ZV U → va_Nw (.castable E E) U)
    (hda : decode y.2.1 xx.handlerPc = .ok (.astore j, 2)) (hj : j < y.2.2.1) (hlo : (ab_st1 lo j .null).set j none = lo2)
    (k : ab_T y d mc ms (c + mc') (s + ms') (xx.handlerPc + 2) lo2 [] h P) : ab_T y d mc ms c s pc lo stk h P := by
  intro p l e R σ m args below meth cd D A Q C ws H locs ls cst hR hP hD hS hL hT hK
  subst ho hst hlo
  obtain ⟨ca, cr, rfl, g1, cv0, cr', rfl, ⟨a, x0, ha, hcv⟩, g2⟩ := ab_S_app hT
  subst hcv
  have g1r := ab_S_rev g1
  rw [List.reverse_reverse] at g1r
  have hC := C
  obtain ⟨hx, hb, hml, hown, hts, hKW, hfr, hlo9, hmc, hms, hA, hnm, hlk2, hret, hfl, hsc⟩ := C
  obtain ⟨hZ, htb⟩ := hsc.2 h1 hnl
  have hF : ∀ q : Nat, va_A ws H.size q → A q := by
    intro q h
    rcases h with ⟨k, x, h⟩ | h
    · exact hD.2 k _ h
    · exact hA q (Nat.le_trans hS.1 h)
  obtain ⟨ci, fs, hci, rfl, -⟩ := ab_obj hR ha (by omega)
  obtain ⟨r, hr, hsel⟩ := hsel ci (by rw [← ht]; exact hci)
  have hMl := hM l hfl D ws H.size (.ref a :: ca.reverse) hR ⟨_, _, rfl, ⟨a, _, ha, rfl⟩, g1r⟩
  have hp : PreV σ H r.1 a (va_Pc (.ref a :: ca.reverse) (fun U => ab_Wd D ws H.size U ∧ ab_ZZ (va_A ws H.size) U)) ca.reverse := ⟨ab_blindW, va_recv hKW.1 hP (ci := ci) (q0 := q) hr ha, fun U hU hW => ⟨rfl, ⟨by rw [hU], by rw [hU]; exact hP, hKW.warm hW, hD.weaken fun _ _ _ _ => trivial⟩, hZ.to hW hU hS hF⟩⟩
  have hrun : vx_Run p l e R σ m args below meth cd H locs c s mc' ms' (F0 m pc ls (ca ++ .ref a :: cr')) cr' (fun _ _ _ => False) (ab_XC E h D ws H.size) (va_A ws H.size) := by
    rcases hsame with hsame | hsame
    · have hcl : r.1 = z.1.cls := by
        have q1 := hsame ci (by rw [← ht]; exact hci)
        rw [hr] at q1
        exact Option.some.inj q1
      exact vx_runV (cc := y.2.1) (nL := y.2.2.1) (Ts := ab_TS) (own := y.1.cls) (As := ca.reverse) (rest := cr') (b := a) (C := r.1) ⟨hx, hb, hml, hown, hts⟩ hMl ⟨ab_callB hC mf (hts _ hlk) hdd, hts _ hins, hts _ hsel⟩ hp
        rfl (by rw [ab_S_len g1r]) hL.1 (by rw [List.reverse_reverse]) (lv_room (Nat.le_trans (ab_cats cr') (by rw [ab_S_len g2]; omega))) hd ⟨Nat.le_trans hc hmc, Nat.le_trans hs hms⟩
    · obtain ⟨c1, c2, c3, c4, c5, c6, c7, c8, c9, c10, c11⟩ := ab_callB (mc' := mc') (ms' := ms') (d' := d') hC mf (hts _ hlk) hdd
      exact vx_runU (x := z.1) (owner := z.1.cls) (cc := y.2.1) (nL := y.2.2.1) (Ts := ab_TS) (own := y.1.cls) (As := ca.reverse) (rest := cr') (b := a) (C := r.1) ⟨hx, hb, hml, hown, hts⟩ hMl ⟨⟨c1, c2, c3, c4, c5, c6⟩, c7, c8, c9, c10, c11, hts _ hsame, va_Decl.of (hts _ hins) c7, hts _ hsel, hts _ hins⟩ hp
        rfl (by rw [ab_S_len g1r]) hL.1 (by rw [List.reverse_reverse]) (lv_room (Nat.le_trans (ab_cats cr') (by rw [ab_S_len g2]; omega))) hd ⟨Nat.le_trans hc hmc, Nat.le_trans hs hms⟩
  intro T hT9 X
  rcases hrun T hT9 X with ⟨v, st₀, t, T', L, -, -, -, -, -, hq, -⟩ | ⟨q9, st₀, t, T', L, E9, ce, e0, X', hL9, e1, e2, ⟨rfl, ⟨ws', hpp, hR', hP', hD'⟩, hz, hk⟩, hce, hcv, hcl9, stp⟩
  · exact hq.elim
  · rw [e0] at hz hk
    rw [← e1] at hz hP' hce
    have hD1 : va_D A ws' := hD'.weaken fun _ q _ h => hF q.1 h
    have hS1 : va_S A σ.heap T'.heap (locs ++ L) := ⟨Nat.le_trans hS.1 hz, fun q h1 h2 => by rw [e1, hk q (Nat.lt_of_lt_of_le h1 hS.1) (fun z => h2 (hF q z))]; exact hS.2.1 q h1 h2, fun q hq => by
      rcases List.mem_append.mp hq with h | h
      · exact hS.2.2 q h
      · exact hF _ (hL9 q h)⟩
    have W1 : vx_W p l e R σ m args below meth cd T'.heap (locs ++ L) (c + mc') (s + ms') Q (F0 m pc ls cr') q9 := by
      refine vx_catch hown pre xx suf (htb.trans htab) (fun z hz => ?_) hcov h0 (hts _ hcl) (va_Nw.use rfl (hca σ hZ.2.2)) hce hcv hcl9 ?_
      · rcases hpass z hz with g | ⟨g, nm, g1, g2⟩
        · exact Or.inl g
        · exact Or.inr ⟨g, nm, hts _ g1, g2 σ hZ.2.2⟩
      · exact lv_astore hx hb hda (ab_all_has hL.1 hL.2.1) hj rfl (fun ls2 h2 => k p l e R σ m args below meth cd D A Q hC ws' T'.heap (locs ++ L) ls2 [] hR' hP' hD1 hS1 (ab_L_skip (hL.mono hpp) h2) rfl (fun v2 u2 ws2 H2 locs2 ls2 pc2 cv2 q1 q2 => hK v2 u2 ws2 H2 locs2 ls2 pc2 cv2 q1 (hpp.tr q2)))
    obtain ⟨t2, a1, b1⟩ := W1 T' rfl X'
    exact ⟨t2, stp.trans a1, b1⟩
end
end ABE
