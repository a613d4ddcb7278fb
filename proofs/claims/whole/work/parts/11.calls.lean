section ABC
def ab_Wd (D : ab_G) (ws : va_W) (sz : Nat) (U : State) : Prop := U.heap.size = sz ∧ va_P D.1 vwCl ws U.heap ∧ ab_KW D U ∧ va_D (fun _ => True) ws
def ab_Qc (P : Option Value → ab_HP → Prop) (D : ab_G) (ws : va_W) (sz : Nat) : Array Value → State → Outcome → State → Prop := fun _ st oc t =>
  (∃ (v : Option Value) (u : ab_HP) (ws' : va_W) (cv : Option Value), oc = .returned cv ∧ P v u ∧ ab_VO D.2.2.1 ws' v cv ∧ ab_P ws ws' ∧ ab_R D u ws' ∧ va_P D.1 vwCl ws' t.heap ∧ va_D (va_A ws sz) ws') ∧ va_F (va_A ws sz) st t
def ab_rm (d mc ms : Nat) : Room := { frames := d, cells := mc, slots := ms, locals := 64 * d }
/-- THE CONTRACT of a method at arguments as and a world h: it returns with P -/
def ab_MET (y : ab_M) (d mc ms : Nat) (as : List Value) (h : ab_HP) (P : Option Value → ab_HP → Prop) : Prop :=
  ∀ (l : Launch), l.flags = flags0 → ∀ (D : ab_G) (ws : va_W) (sz : Nat) (cas : List Value), ab_R D h ws → ab_S D.2.2.1 ws as cas →
    Met l y.1 (ab_ws y) (ab_rm d mc ms) (va_Pc cas (ab_Wd D ws sz)) (ab_Qc P D ws sz) mc ms (va_A ws sz)
theorem ab_blind {D : ab_G} {ws : va_W} {sz : Nat} {cas : List Value} : FrameBlind (va_Pc cas (ab_Wd D ws sz)) := by
  intro a U g mk q
  obtain ⟨q0, q1, q2, q3, q4⟩ := q
  exact ⟨q0, q1, q2, ab_KW.vm (s := U) (U := U.calling g mk a) rfl q3, q4⟩
theorem ab_S_app {b : Nat} {ws : va_W} : ∀ {x z cst : List Value}, ab_S b ws (x ++ z) cst → ∃ cx cz, cst = cx ++ cz ∧ ab_S b ws x cx ∧ ab_S b ws z cz
  | [], _, cst, h => ⟨[], cst, rfl, rfl, h⟩
  | _ :: x, _, _, ⟨cv, cst', h1, h2, h3⟩ => by
    obtain ⟨cx, cz, g1, g2, g3⟩ := ab_S_app (x := x) h3
    exact ⟨cv :: cx, cz, by rw [h1, g1]; rfl, ⟨cv, cx, rfl, h2, g2⟩, g3⟩
theorem ab_S_cat {b : Nat} {ws : va_W} : ∀ {x z cx cz : List Value}, ab_S b ws x cx → ab_S b ws z cz → ab_S b ws (x ++ z) (cx ++ cz)
  | [], _, _, _, h, g => by
    have h : _ = [] := h
    subst h
    exact g
  | _ :: _, _, _, _, ⟨cv, cst', h1, h2, h3⟩, g => by
    subst h1
    exact ⟨cv, cst' ++ _, rfl, h2, ab_S_cat h3 g⟩
theorem ab_S_rev {b : Nat} {ws : va_W} : ∀ {x cx : List Value}, ab_S b ws x cx → ab_S b ws x.reverse cx.reverse
  | [], _, h => by
    have h : _ = [] := h
    subst h
    rfl
  | v :: x, _, ⟨cv, cst', h1, h2, h3⟩ => by
    subst h1
    rw [List.reverse_cons, List.reverse_cons]
    exact ab_S_cat (ab_S_rev h3) ⟨cv, [], rfl, h2, rfl⟩
theorem ab_S_len {b : Nat} {ws : va_W} : ∀ {x cx : List Value}, ab_S b ws x cx → cx.length = x.length
  | [], _, h => by
    have h : _ = [] := h
    subst h
    rfl
  | v :: x, _, ⟨cv, cst', h1, h2, h3⟩ => by
    subst h1
    rw [List.length_cons, List.length_cons, ab_S_len h3]
theorem ab_cats : ∀ (l : List Value), (l.map fun v => v.category).sum ≤ 2 * l.length
  | [] => Nat.le_refl _
  | v :: l => by
    have h := ab_cats l
    have h2 : v.category ≤ 2 := by rcases lv_cat v with q | q <;> omega
    simp only [List.map_cons, List.sum_cons, List.length_cons]
    omega
theorem ab_toV {b : Nat} {ws : va_W} {v cv : Option Value} {st cst : List Value} (h : ab_VO b ws v cv) (g : ab_S b ws st cst) : ab_S b ws (v.toList ++ st) (cv.toList ++ cst) := by
  cases v with
  | none =>
    have h : cv = none := h
    subst h
    exact g
  | some v =>
    obtain ⟨w, rfl, h2⟩ := h
    exact ⟨w, cst, rfl, h2, g⟩
section
variable {p : Program} {l : Launch} {e : Env} {R : Room} {σ : State} {m : MethodId} {args : Array Value} {below : List Frame} {meth : Method} {cd : Code} {H : Heap} {locs : List Loc} {c s : Nat} {Q : State → Prop}
theorem ab_after {D : ab_G} {A : Nat → Prop} {ws : va_W} {mc' ms' pc : Nat} {ls : Array Slot} {st0 rest : List Value} {P' : Option Value → ab_HP → Prop} {a : Array Value}
    (hr : va_Run p l e R σ m args below meth cd H locs c s mc' ms' (F0 m pc ls st0) rest (ab_Qc P' D ws H.size a) (va_A ws H.size)) (hD : va_D A ws) (hS : va_S A σ.heap H locs) (hA : ∀ q : Nat, σ.heap.size ≤ q → A q)
    (kk : ∀ (v : Option Value) (u : ab_HP) (ws' : va_W) (cv : Option Value) (H1 : Heap) (locs1 : List Loc), P' v u → ab_VO D.2.2.1 ws' v cv → ab_P ws ws' → ab_R D u ws' → va_P D.1 vwCl ws' H1 → va_D A ws' → va_S A σ.heap H1 locs1 → W p l e R σ m args below meth cd H1 locs1 (c + mc') (s + ms') Q (F0 m (pc + 3) ls (cv.toList ++ rest))) :
    W p l e R σ m args below meth cd H locs c s Q (F0 m pc ls st0) := by
  intro T hT X
  obtain ⟨v0, st₀, t, T', L, h0, X', hL, e1, e2, ⟨⟨v, u, ws', cv, hv, hp, hvo, hpp, hR, hP, hD'⟩, hz, hk⟩, st⟩ := hr T hT X
  cases hv
  rw [h0] at hz hk
  have hF : ∀ q : Nat, va_A ws H.size q → A q := by
    intro q h
    rcases h with ⟨k, x, h⟩ | h
    · exact hD.2 k _ h
    · exact hA q (Nat.le_trans hS.1 h)
  obtain ⟨t2, a1, b1⟩ := kk v u ws' _ T'.heap (locs ++ L) hp hvo hpp hR (by rw [e1]; exact hP) (hD'.weaken fun _ q _ h => hF q.1 h)
    ⟨Nat.le_trans hS.1 (by rw [e1]; exact hz), fun q h1 h2 => by rw [e1, hk q (Nat.lt_of_lt_of_le h1 hS.1) (fun z => h2 (hF q z))]; exact hS.2.1 q h1 h2, fun q hq => by
      rcases List.mem_append.mp hq with h | h
      · exact hS.2.2 q h
      · exact hF _ (hL q h)⟩ T' rfl X'
  exact ⟨t2, st t2 a1, b1⟩
end
/-- what a method's name says -/
def ab_MF (z : ab_M) (n : Nat) : Prop := ab_code z ∈ ab_TS ∧ Cond.initialized z.1.cls ∈ ab_TS ∧ (z.1.cls ≠ "java/lang/invoke/MethodHandle" ∧ z.1.cls ≠ "java/lang/invoke/VarHandle") ∧ (parseMethodDescriptor z.1.desc).map (fun d => d.parameters.length) = some n ∧ z.2.2.1 ≤ 40
theorem ab_callB {y z : ab_M} {d mc ms d' mc' ms' n idx : Nat} {l : Launch} {D : ab_G} {A : Nat → Prop} {p : Program} {R : Room} {σ : State} {m : MethodId} {args : Array Value} {meth : Method} {cd : Code} (C : ab_C y d mc ms l D A p R σ m args meth cd)
    (mf : ab_MF z n) (hl : (Cond.methodLink y.1.cls idx z.1).before args σ = true) (hdd : d' + 1 ≤ d) : CallB R σ args y.1.cls idx z.1 z.2.1 z.2.2.1 z.2.2.2.1 (ab_ws z) (ab_rm d' mc' ms') mc' ms' n := by
  obtain ⟨hx, hb, hml, hown, hts, hKW, hfr, hlo, -⟩ := C
  obtain ⟨m1, m2, m3, m4, m5⟩ := mf
  refine ⟨rfl, rfl, by show d' + 1 ≤ R.frames; omega, by show 8 + (z.2.2.1 + 11) + 64 * d' ≤ R.locals; omega, pay_in hts (ab_ws_good m1), List.mem_cons_self, hts _ m1, hts _ m2, m3, fun sig h => ?_, hl⟩
  rw [h] at m4
  exact (Option.some.inj m4).symm
theorem ab_preS {D : ab_G} {ws : va_W} {σ : State} {H : Heap} {As : List Value} {A : Nat → Prop} (hP : va_P D.1 vwCl ws H) (hD : va_D A ws) (hK : ab_KW D σ) : PreS σ H (va_Pc As (ab_Wd D ws H.size)) As :=
  ⟨ab_blind, fun U hU hW => ⟨rfl, by rw [hU], by rw [hU]; exact hP, hK.warm hW, hD.weaken fun _ _ _ _ => trivial⟩⟩
section
variable {y z : ab_M} {d mc ms c s d' mc' ms' idx pc pc2 : Nat} {lo : List (Option Value)} {as st stk : List Value} {h : ab_HP} {P P' : Option Value → ab_HP → Prop}
/-- a static method -/
theorem ab_callS (hM : ab_MET z d' mc' ms' as h P') (mf : ab_MF z as.length) (hlk : Cond.methodLink y.1.cls idx z.1 ∈ ab_TS) (hsta : Cond.static z.1 ∈ ab_TS) (hd : decode y.2.1 pc = .ok (.invokestatic idx, 3)) (hn : pc + 3 = pc2) (hdd : d' + 1 ≤ d) (hc : c + mc' ≤ mc) (hs : s + ms' ≤ ms)
    (hst : as.reverse ++ st = stk) (hlen : st.length ≤ 4) (k : ∀ v u, P' v u → ab_T y d mc ms (c + mc') (s + ms') pc2 lo (v.toList ++ st) u P) : ab_T y d mc ms c s pc lo stk h P := by
  intro p l e R σ m args below meth cd D A Q C ws H locs ls cst hR hP hD hS hL hT hK
  subst hst hn
  obtain ⟨ca, cr, rfl, g1, g2⟩ := ab_S_app hT
  have g1r := ab_S_rev g1
  rw [List.reverse_reverse] at g1r
  have hC := C
  obtain ⟨hx, hb, hml, hown, hts, hKW, hfr, hlo, hmc, hms, hA, hnm, hlk2, hret, hfl, -⟩ := C
  refine ab_after (va_runS (cc := y.2.1) (nL := y.2.2.1) (Ts := ab_TS) (own := y.1.cls) (As := ca.reverse) (rest := cr) ⟨hx, hb, hml, hown, hts⟩ (hM l hfl D ws H.size ca.reverse hR g1r) ⟨ab_callB hC mf (hts _ hlk) hdd, hts _ hsta⟩ (ab_preS hP hD hKW)
    rfl (by rw [ab_S_len g1r]) hL.1 (by rw [List.reverse_reverse]) (lv_room (Nat.le_trans (ab_cats cr) (by rw [ab_S_len g2]; omega))) hd ⟨Nat.le_trans hc hmc, Nat.le_trans hs hms⟩) hD hS hA fun v u ws' cv H1 locs1 hp hvo hpp hR' hP' hD' hS' => ?_
  exact k v u hp p l e R σ m args below meth cd D A Q hC ws' H1 locs1 ls _ hR' hP' hD' hS' (hL.mono hpp) (ab_toV hvo (g2.mono hpp)) (fun v2 u2 ws2 H2 locs2 ls2 pc2 cv2 q1 q2 => hK v2 u2 ws2 H2 locs2 ls2 pc2 cv2 q1 (hpp.tr q2))
/-- a static method of a nest mate, private -/
theorem ab_callSN (hM : ab_MET z d' mc' ms' as h P') (mf : ab_MF z as.length) {host : String} (hlk : (y.1.cls, idx, z.1, host) ∈ ab_nests) (hsta : Cond.static z.1 ∈ ab_TS) (hd : decode y.2.1 pc = .ok (.invokestatic idx, 3)) (hn : pc + 3 = pc2) (hdd : d' + 1 ≤ d) (hc : c + mc' ≤ mc) (hs : s + ms' ≤ ms)
    (hst : as.reverse ++ st = stk) (hlen : st.length ≤ 4) (k : ∀ v u, P' v u → ab_T y d mc ms (c + mc') (s + ms') pc2 lo (v.toList ++ st) u P) : ab_T y d mc ms c s pc lo stk h P := by
  intro p l e R σ m args below meth cd D A Q C ws H locs ls cst hR hP hD hS hL hT hK
  subst hst hn
  obtain ⟨ca, cr, rfl, g1, g2⟩ := ab_S_app hT
  have g1r := ab_S_rev g1
  rw [List.reverse_reverse] at g1r
  have hC := C
  obtain ⟨hx, hb, hml, hown, hts, hKW, hfr, hlo, hmc, hms, hA, hnm, hlk2, hret, hfl, -⟩ := C
  obtain ⟨m1, m2, m3, m4, m5⟩ := mf
  refine ab_after (va_runSN (cc := y.2.1) (nL := y.2.2.1) (Ts := ab_TS) (own := y.1.cls) (As := ca.reverse) (rest := cr) (n := as.length) ⟨hx, hb, hml, hown, hts⟩ (hM l hfl D ws H.size ca.reverse hR g1r) ⟨va_cnB as.length hts (ab_ws_good m1) rfl rfl rfl (hKW.2.1 _ hlk) (hts _ m2) ⟨m3.1, m3.2, m4⟩ ⟨by show d' + 1 ≤ R.frames; omega, by show 8 + (z.2.2.1 + 11) + 64 * d' ≤ R.locals; omega⟩, hts _ hsta, trivial⟩ (ab_preS hP hD hKW)
    rfl (by rw [ab_S_len g1r]) hL.1 (by rw [List.reverse_reverse]) (lv_room (Nat.le_trans (ab_cats cr) (by rw [ab_S_len g2]; omega))) hd ⟨Nat.le_trans hc hmc, Nat.le_trans hs hms⟩) hD hS hA fun v u ws' cv H1 locs1 hp hvo hpp hR' hP' hD' hS' => ?_
  exact k v u hp p l e R σ m args below meth cd D A Q hC ws' H1 locs1 ls _ hR' hP' hD' hS' (hL.mono hpp) (ab_toV hvo (g2.mono hpp)) (fun v2 u2 ws2 H2 locs2 ls2 pc2 cv2 q1 q2 => hK v2 u2 ws2 H2 locs2 ls2 pc2 cv2 q1 (hpp.tr q2))
/-- a constructor -/
theorem ab_callI {q : Nat} (hM : ab_MET z d' mc' ms' (va_rf (some q) :: as) h P') (mf : ab_MF z as.length) (hret0 : z.2.2.2.1 = none) (hini : z.1.name = "<init>") (hlk : Cond.methodLink y.1.cls idx z.1 ∈ ab_TS) (hins : Cond.instanceMethod z.1 ∈ ab_TS) (hd : decode y.2.1 pc = .ok (.invokespecial idx, 3)) (hn : pc + 3 = pc2) (hdd : d' + 1 ≤ d) (hc : c + mc' ≤ mc) (hs : s + ms' ≤ ms)
    (hst : as.reverse ++ va_rf (some q) :: st = stk) (hlen : st.length ≤ 4) (k : ∀ v u, P' v u → ab_T y d mc ms (c + mc') (s + ms') pc2 lo (v.toList ++ st) u P) : ab_T y d mc ms c s pc lo stk h P := by
  intro p l e R σ m args below meth cd D A Q C ws H locs ls cst hR hP hD hS hL hT hK
  subst hst hn
  obtain ⟨ca, cr, rfl, g1, cv0, cr', rfl, ⟨a, x0, ha, hcv⟩, g2⟩ := ab_S_app hT
  subst hcv
  have g1r := ab_S_rev g1
  rw [List.reverse_reverse] at g1r
  have hC := C
  obtain ⟨hx, hb, hml, hown, hts, hKW, hfr, hlo, hmc, hms, hA, hnm, hlk2, hret, hfl, -⟩ := C
  have cb := ab_callB (mc' := mc') (ms' := ms') (d' := d') hC mf (hts _ hlk) hdd
  rw [hret0] at cb
  refine ab_after (va_runI (cc := y.2.1) (nL := y.2.2.1) (Ts := ab_TS) (own := y.1.cls) (As := ca.reverse) (rest := cr') (b := a) ⟨hx, hb, hml, hown, hts⟩ (hM l hfl D ws H.size (.ref a :: ca.reverse) hR ⟨_, _, rfl, ⟨a, x0, ha, rfl⟩, g1r⟩) ⟨cb, hini, hts _ hins⟩ (ab_preS hP hD hKW)
    rfl (by rw [ab_S_len g1r]) hL.1 (by rw [List.reverse_reverse]) (lv_room (Nat.le_trans (ab_cats cr') (by rw [ab_S_len g2]; omega))) hd ⟨Nat.le_trans hc hmc, Nat.le_trans hs hms⟩) hD hS hA fun v u ws' cv H1 locs1 hp hvo hpp hR' hP' hD' hS' => ?_
  exact k v u hp p l e R σ m args below meth cd D A Q hC ws' H1 locs1 ls _ hR' hP' hD' hS' (hL.mono hpp) (ab_toV hvo (g2.mono hpp)) (fun v2 u2 ws2 H2 locs2 ls2 pc2 cv2 q1 q2 => hK v2 u2 ws2 H2 locs2 ls2 pc2 cv2 q1 (hpp.tr q2))
/-- a private constructor of a nest mate -/
theorem ab_callIN {q : Nat} (hM : ab_MET z d' mc' ms' (va_rf (some q) :: as) h P') (mf : ab_MF z as.length) (hret0 : z.2.2.2.1 = none) (hini : z.1.name = "<init>") {host : String} (hlk : (y.1.cls, idx, z.1, host) ∈ ab_nests) (hins : Cond.instanceMethod z.1 ∈ ab_TS) (hd : decode y.2.1 pc = .ok (.invokespecial idx, 3)) (hn : pc + 3 = pc2) (hdd : d' + 1 ≤ d) (hc : c + mc' ≤ mc) (hs : s + ms' ≤ ms)
    (hst : as.reverse ++ va_rf (some q) :: st = stk) (hlen : st.length ≤ 4) (k : ∀ v u, P' v u → ab_T y d mc ms (c + mc') (s + ms') pc2 lo (v.toList ++ st) u P) : ab_T y d mc ms c s pc lo stk h P := by
  intro p l e R σ m args below meth cd D A Q C ws H locs ls cst hR hP hD hS hL hT hK
  subst hst hn
  obtain ⟨ca, cr, rfl, g1, cv0, cr', rfl, ⟨a, x0, ha, hcv⟩, g2⟩ := ab_S_app hT
  subst hcv
  have g1r := ab_S_rev g1
  rw [List.reverse_reverse] at g1r
  have hC := C
  obtain ⟨hx, hb, hml, hown, hts, hKW, hfr, hlo, hmc, hms, hA, hnm, hlk2, hret, hfl, -⟩ := C
  obtain ⟨m1, m2, m3, m4, m5⟩ := mf
  have hw : ab_ws z = Cond.code z.1 z.2.1 z.2.2.1 none :: ab_TS := by rw [← hret0]; rfl
  refine ab_after (va_runIN (cc := y.2.1) (nL := y.2.2.1) (Ts := ab_TS) (own := y.1.cls) (As := ca.reverse) (rest := cr') (b := a) (n := as.length) ⟨hx, hb, hml, hown, hts⟩ (hM l hfl D ws H.size (.ref a :: ca.reverse) hR ⟨_, _, rfl, ⟨a, x0, ha, rfl⟩, g1r⟩) ⟨va_cnB as.length hts (ab_ws_good m1) hw rfl rfl (hKW.2.1 _ hlk) (hts _ m2) ⟨m3.1, m3.2, m4⟩ ⟨by show d' + 1 ≤ R.frames; omega, by show 8 + (z.2.2.1 + 11) + 64 * d' ≤ R.locals; omega⟩, hini, hts _ hins⟩ (ab_preS hP hD hKW)
    rfl (by rw [ab_S_len g1r]) hL.1 (by rw [List.reverse_reverse]) (lv_room (Nat.le_trans (ab_cats cr') (by rw [ab_S_len g2]; omega))) hd ⟨Nat.le_trans hc hmc, Nat.le_trans hs hms⟩) hD hS hA fun v u ws' cv H1 locs1 hp hvo hpp hR' hP' hD' hS' => ?_
  exact k v u hp p l e R σ m args below meth cd D A Q hC ws' H1 locs1 ls _ hR' hP' hD' hS' (hL.mono hpp) (ab_toV hvo (g2.mono hpp)) (fun v2 u2 ws2 H2 locs2 ls2 pc2 cv2 q1 q2 => hK v2 u2 ws2 H2 locs2 ls2 pc2 cv2 q1 (hpp.tr q2))
/-- an object's class, by its kind -/
theorem ab_obj {D : ab_G} {ws : va_W} {q a : Nat} {x : va_E} (hR : ab_R D h ws) (hq : ws[q]? = some (a, x)) (ht : (ab_shp q).1 < 6) : ∃ (ci : Nat) (fs : List Value), ci ∈ ab_cls (ab_shp q).1 ∧ x = .inr (ci, fs) ∧ fs.length = (ab_fk (ab_shp q).1).length ∧ ∀ k kd, (ab_fk (ab_shp q).1)[k]? = some kd → ∃ v, fs[k]? = some v ∧ ab_fv h ws q k kd v := by
  have g := hR.2 q a x hq
  unfold ab_ce at g
  rwa [if_pos ht] at g
/-- a method of the receiver's own class; inherited ones: the same with every class of the kind -/
theorem ab_callV {q t : Nat} {o : Option Nat} (ho : o = some q) (ht : (ab_shp q).1 = t) (ht6 : t < 6) (hM : ab_MET z d' mc' ms' (va_rf (some q) :: as) h P') (mf : ab_MF z as.length) (hlk : Cond.methodLink y.1.cls idx z.1 ∈ ab_TS) (hins : Cond.instanceMethod z.1 ∈ ab_TS)
    (hsel : (∀ ci ∈ ab_cls t, ∃ r : vw_C, vwCl[ci]? = some r ∧ Cond.selects r.1 z.1 z.1 ∈ ab_TS)) (hsame : (∀ ci ∈ ab_cls t, (vwCl[ci]?.map fun r => r.1) = some z.1.cls) ∨ Cond.sameMethod z.1.cls z.1.cls z.1.name z.1.desc ∈ ab_TS) (hd : decode y.2.1 pc = .ok (.invokevirtual idx, 3)) (hn : pc + 3 = pc2) (hdd : d' + 1 ≤ d) (hc : c + mc' ≤ mc) (hs : s + ms' ≤ ms)
    (hst : as.reverse ++ va_rf o :: st = stk) (hlen : st.length ≤ 4) (k : ∀ v u, P' v u → ab_T y d mc ms (c + mc') (s + ms') pc2 lo (v.toList ++ st) u P) : ab_T y d mc ms c s pc lo stk h P := by
  intro p l e R σ m args below meth cd D A Q C ws H locs ls cst hR hP hD hS hL hT hK
  subst ho hst hn
  obtain ⟨ca, cr, rfl, g1, cv0, cr', rfl, ⟨a, x0, ha, hcv⟩, g2⟩ := ab_S_app hT
  subst hcv
  have g1r := ab_S_rev g1
  rw [List.reverse_reverse] at g1r
  have hC := C
  obtain ⟨hx, hb, hml, hown, hts, hKW, hfr, hlo, hmc, hms, hA, hnm, hlk2, hret, hfl, -⟩ := C
  obtain ⟨ci, fs, hci, rfl, -⟩ := ab_obj hR ha (by omega)
  obtain ⟨r, hr, hsel⟩ := hsel ci (by rw [← ht]; exact hci)
  have hMl := hM l hfl D ws H.size (.ref a :: ca.reverse) hR ⟨_, _, rfl, ⟨a, _, ha, rfl⟩, g1r⟩
  have hp : PreV σ H r.1 a (va_Pc (.ref a :: ca.reverse) (ab_Wd D ws H.size)) ca.reverse := ⟨ab_blind, va_recv hKW.1 hP (ci := ci) (q0 := q) hr ha, (ab_preS hP hD hKW).2⟩
  have hrun : va_Run p l e R σ m args below meth cd H locs c s mc' ms' (F0 m pc ls (ca ++ .ref a :: cr')) cr' (ab_Qc P' D ws H.size (Value.ref a :: ca.reverse).toArray) (va_A ws H.size) := by
    rcases hsame with hsame | hsame
    · have hcl : r.1 = z.1.cls := by
        have q1 := hsame ci (by rw [← ht]; exact hci)
        rw [hr] at q1
        exact Option.some.inj q1
      exact va_runV (cc := y.2.1) (nL := y.2.2.1) (Ts := ab_TS) (own := y.1.cls) (As := ca.reverse) (rest := cr') (b := a) (C := r.1) ⟨hx, hb, hml, hown, hts⟩ hMl ⟨ab_callB hC mf (hts _ hlk) hdd, hts _ hins, hts _ hsel⟩ hp
        rfl (by rw [ab_S_len g1r]) hL.1 (by rw [List.reverse_reverse]) (lv_room (Nat.le_trans (ab_cats cr') (by rw [ab_S_len g2]; omega))) hd ⟨Nat.le_trans hc hmc, Nat.le_trans hs hms⟩
    · obtain ⟨c1, c2, c3, c4, c5, c6, c7, c8, c9, c10, c11⟩ := ab_callB (mc' := mc') (ms' := ms') (d' := d') hC mf (hts _ hlk) hdd
      exact va_runU (x := z.1) (owner := z.1.cls) (cc := y.2.1) (nL := y.2.2.1) (Ts := ab_TS) (own := y.1.cls) (As := ca.reverse) (rest := cr') (b := a) (C := r.1) ⟨hx, hb, hml, hown, hts⟩ hMl ⟨⟨c1, c2, c3, c4, c5, c6⟩, c7, c8, c9, c10, c11, hts _ hsame, va_Decl.of (hts _ hins) c7, hts _ hsel, hts _ hins⟩ hp
        rfl (by rw [ab_S_len g1r]) hL.1 (by rw [List.reverse_reverse]) (lv_room (Nat.le_trans (ab_cats cr') (by rw [ab_S_len g2]; omega))) hd ⟨Nat.le_trans hc hmc, Nat.le_trans hs hms⟩
  refine ab_after hrun hD hS hA fun v u ws' cv H1 locs1 hp hvo hpp hR' hP' hD' hS' => ?_
  exact k v u hp p l e R σ m args below meth cd D A Q hC ws' H1 locs1 ls _ hR' hP' hD' hS' (hL.mono hpp) (ab_toV hvo (g2.mono hpp)) (fun v2 u2 ws2 H2 locs2 ls2 pc2 cv2 q1 q2 => hK v2 u2 ws2 H2 locs2 ls2 pc2 cv2 q1 (hpp.tr q2))
end
def ab_lo : List Value → List (Option Value)
  | [] => []
  | v :: vs => some v :: (if v.category = 2 then none :: ab_lo vs else ab_lo vs)
def ab_lo0 (as : List Value) (n : Nat) : List (Option Value) := ab_lo as ++ List.replicate (n - (ab_lo as).length) none
end ABC
