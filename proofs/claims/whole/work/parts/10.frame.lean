section ABF
/-! THE ABSTRACT WORLD: numbers and references by object and place; objects are numbered as they are made. -/
abbrev ab_HP : Type := Nat × (Nat → Nat → Int32) × (Nat → Nat → Int64) × (Nat → Nat → Option Nat)
def ab_i (h : ab_HP) (r k : Nat) : Int32 := h.2.1 r k
def ab_l (h : ab_HP) (r k : Nat) : Int64 := h.2.2.1 r k
def ab_r (h : ab_HP) (r k : Nat) : Option Nat := h.2.2.2 r k
def ab_ip (h : ab_HP) (r k : Nat) (v : Int32) : ab_HP := (h.1, fun a b => if a = r ∧ b = k then v else h.2.1 a b, h.2.2.1, h.2.2.2)
def ab_lp (h : ab_HP) (r k : Nat) (v : Int64) : ab_HP := (h.1, h.2.1, fun a b => if a = r ∧ b = k then v else h.2.2.1 a b, h.2.2.2)
def ab_rp (h : ab_HP) (r k : Nat) (v : Option Nat) : ab_HP := (h.1, h.2.1, h.2.2.1, fun a b => if a = r ∧ b = k then v else h.2.2.2 a b)
/-- a new object, all of it 0, null -/
def ab_nw (h : ab_HP) : ab_HP := (h.1 + 1, fun a b => if a = h.1 then 0 else h.2.1 a b, fun a b => if a = h.1 then 0 else h.2.2.1 a b, fun a b => if a = h.1 then none else h.2.2.2 a b)
/-- numbers of one row come to another (or to the same) -/
def ab_cp (h : ab_HP) (q : Nat) (i : Nat) (r : Nat) (j n : Nat) : ab_HP := (h.1, fun a b => if a = r then va_cpy (h.2.1 q) (h.2.1 r) i j n b else h.2.1 a b, h.2.2.1, h.2.2.2)
/-- a method: its name, code, locals, what it answers; of the law: its script's length and ints -/
abbrev ab_M : Type := MethodName × ByteArray × Nat × Option FieldType × Nat × (Nat → Int32)
/-- the machine's numbers: classes and slots; the four array classes; the script's cell -/
abbrev ab_G : Type := va_G × (ClassId × ClassId × ClassId × ClassId) × Nat × Unit
def ab_tys (D : ab_G) : List (ClassId × FieldType) := [(D.2.1.1, .int), (D.2.1.2.1, .long), (D.2.1.2.2.1, .object "BackwardYears$Deed"), (D.2.1.2.2.2, .object "BackwardYears$Shelf")]
/-- what stands at which number: kind and (of a row) length; all behind the table are deeds -/
def ab_shp (r : Nat) : Nat × Nat := ab_tab.getD r (4, 0)
/-- the classes of a kind -/
def ab_cls (t : Nat) : List Nat := match t with
  | 0 => [11] | 1 => [9] | 2 => [10] | 3 => [6] | 4 => [0, 1, 2, 3, 4, 5, 7, 8] | 5 => [12] | _ => []
/-- the type of a field of kind: 0 int, 1 boolean, 2 long, 3 + t a reference to kind t -/
def ab_kty (kd : Nat) : FieldType := match kd with
  | 0 => .int | 1 => .boolean | 2 => .long
  | 3 => .object "BackwardYears" | 4 => .object "BackwardYears$Town" | 5 => .object "BackwardYears$Years" | 6 => .object "BackwardYears$Shelf" | 7 => .object "BackwardYears$Deed" | 8 => .object "BackwardYearsModel"
  | 9 => .array .int | 10 => .array .long | 11 => .array (.object "BackwardYears$Deed") | _ => .array (.object "BackwardYears$Shelf")
/-- an abstract value's concrete one: references by the world's addresses; .float stands for the script -/
def ab_V (b : Nat) (ws : va_W) (v cv : Value) : Prop := match v with
  | .ref q => ∃ (a : Nat) (e : va_E), ws[q]? = some (a, e) ∧ cv = .ref a
  | .float _ => cv = .ref b
  | v => cv = v
def ab_S (b : Nat) (ws : va_W) : List Value → List Value → Prop
  | [], cst => cst = []
  | v :: st, cst => ∃ cv cst', cst = cv :: cst' ∧ ab_V b ws v cv ∧ ab_S b ws st cst'
def ab_ro (ws : va_W) (t : Nat) (o g : Option Nat) : Prop := match o with
  | none => g = none
  | some q => (ab_shp q).1 = t ∧ ∃ (a : Nat) (e : va_E), ws[q]? = some (a, e) ∧ g = some a
def ab_fv (h : ab_HP) (ws : va_W) (r k kd : Nat) (v : Value) : Prop :=
  if kd < 2 then v = .int (ab_i h r k) else if kd = 2 then v = .long (ab_l h r k) else ∃ g, ab_ro ws (kd - 3) (ab_r h r k) g ∧ v = va_rf g
def ab_ce (D : ab_G) (h : ab_HP) (ws : va_W) (r : Nat) (e : va_E) : Prop :=
  if (ab_shp r).1 < 6 then ∃ (ci : Nat) (fs : List Value), ci ∈ ab_cls (ab_shp r).1 ∧ e = .inr (ci, fs) ∧ fs.length = (ab_fk (ab_shp r).1).length ∧ ∀ k kd, (ab_fk (ab_shp r).1)[k]? = some kd → ∃ v, fs[k]? = some v ∧ ab_fv h ws r k kd v
  else if (ab_shp r).1 = 6 then e = .inl (D.2.1.1, (ab_shp r).2, .inl (ab_i h r))
  else if (ab_shp r).1 = 7 then e = .inl (D.2.1.2.1, (ab_shp r).2, .inr (.inl (ab_l h r)))
  else if (ab_shp r).1 = 8 then ∃ g : Nat → Option Nat, e = .inl (D.2.1.2.2.1, (ab_shp r).2, .inr (.inr (.inr (.inr g)))) ∧ ∀ i, ab_ro ws 4 (ab_r h r i) (g i)
  else ∃ g : Nat → Option Nat, e = .inl (D.2.1.2.2.2, (ab_shp r).2, .inr (.inr (.inr (.inr g)))) ∧ ∀ i, ab_ro ws 3 (ab_r h r i) (g i)
def ab_R (D : ab_G) (h : ab_HP) (ws : va_W) : Prop := ws.length = h.1 ∧ ∀ (r a : Nat) (e : va_E), ws[r]? = some (a, e) → ab_ce D h ws r e
/-- addresses stay -/
def ab_P (ws ws' : va_W) : Prop := ∀ (q a : Nat) (e : va_E), ws[q]? = some (a, e) → ∃ e', ws'[q]? = some (a, e')
def ab_L (b : Nat) (ws : va_W) (n : Nat) (lo : List (Option Value)) (ls : Array Slot) : Prop := ls.size = n ∧ lv_wf ls ∧ ∀ (i : Nat) (v : Value), lo[i]? = some (some v) → ∃ cv, ls[i]? = some (.val cv) ∧ ab_V b ws v cv
/-- what the tables say besides the words -/
def ab_KW (D : ab_G) (U : State) : Prop := va_K D.1 vwCl (ab_tys D) U ∧ (∀ q ∈ ab_nests, va_Nw (.methodLinkNest q.1 q.2.1 q.2.2.1 q.2.2.2) U) ∧ (∀ C ∈ ab_kids, va_Nw (.castable C RX1) U) ∧ va_AO RX1 U ∧ va_AO RX6 U
theorem ab_KW.warm {D : ab_G} {s U : State} (hW : s.WarmedH U.vm) (h : ab_KW D s) : ab_KW D U :=
  ⟨va_K.moved hW.alike h.1, fun q hq => va_Nw.warmM hW (h.2.1 q hq), fun C hC => va_Nw.warmC hW (h.2.2.1 C hC), va_AO.moved hW.alike h.2.2.2.1, va_AO.moved hW.alike h.2.2.2.2⟩
theorem ab_KW.vm {D : ab_G} {s U : State} (hW : s.vm = U.vm) (h : ab_KW D s) : ab_KW D U := by
  have hA : s.vm.Alike U.vm := hW ▸ Vm.Alike.refl s.vm
  exact ⟨va_K.moved hA h.1, fun q hq => va_Nw.same rfl hW (h.2.1 q hq), fun C hC => va_Nw.same rfl hW (h.2.2.1 C hC), va_AO.moved hA h.2.2.2.1, va_AO.moved hA h.2.2.2.2⟩
def ab_code (y : ab_M) : Cond := .code y.1 y.2.1 y.2.2.1 y.2.2.2.1
def ab_ws (y : ab_M) : List Cond := ab_code y :: ab_TS
theorem ab_ws_good {y : ab_M} (hy : ab_code y ∈ ab_TS) : GoodIn ab_TS (ab_ws y) := by
  intro w hw
  rcases List.mem_cons.mp hw with rfl | hw
  · exact ⟨hy, good_of_word (ab_TS_good _ hy)⟩
  · exact ⟨hw, good_of_word (ab_TS_good _ hw)⟩
/-- the exception table of a method that is walked by hand -/
def ab_hh (y : MethodName) : List (Nat × Nat × Nat × Nat) := if y.name = "toss" then [(26, 30, 33, 264)] else if y.cls = "BackwardYearsLaw" then [(0, 9, 12, 13), (0, 9, 16, 15)] else []
def ab_C (y : ab_M) (d mc ms : Nat) (l : Launch) (D : ab_G) (A : Nat → Prop) (p : Program) (R : Room) (s : State) (m : MethodId) (args : Array Value) (meth : Method) (c : Code) : Prop :=
  p.tables.exec = Jvm.exec ∧ c.code = y.2.1 ∧ c.maxLocals = y.2.2.1 ∧ s.vm.findClass y.1.cls = some m.cls ∧ (∀ w ∈ ab_TS, w.before args s = true) ∧ ab_KW D s ∧ d ≤ R.frames ∧ 64 * d ≤ R.locals ∧ mc ≤ R.cells ∧ ms ≤ R.slots ∧ (∀ q : Nat, s.heap.size ≤ q → A q) ∧ meth.name = y.1.name ∧ meth.locks = false ∧ meth.sig.returnType = y.2.2.2.1 ∧ l.flags = flags0 ∧ ((y.1.name = "law" → va_X D.2.2.1 y.2.2.2.2.1 y.2.2.2.2.2 s s.heap ∧ D.2.2.1 < s.heap.size ∧ ¬ A D.2.2.1 ∧ ab_ZZ A s) ∧ (1 ≤ y.2.2.2.2.1 → y.1.name ≠ "law" → ab_ZZ A s ∧ c.exceptionTable.toList = tableOf (ab_hh y.1)))
def ab_VO (b : Nat) (ws : va_W) : Option Value → Option Value → Prop
  | none, cv => cv = none
  | some v, cv => ∃ w, cv = some w ∧ ab_V b ws v w
/-- the return instruction at which a method ends; or (the fifth number of y: 1000 and more) a place where its walk is left -/
def ab_XT (y : ab_M) (pc : Nat) : Prop := y.1.name ≠ "law" ∧ y.2.2.2.2.1 = 1000 + pc
def ab_RI (y : ab_M) (pc : Nat) (v : Option Value) : Prop := match v with
  | none => (decode y.2.1 pc = .ok (.return_, 1) ∧ y.2.2.2.1 = none) ∨ ab_XT y pc
  | some (.int x) => (decode y.2.1 pc = .ok (.ireturn, 1) ∧ (y.2.2.2.1 = some .int ∨ y.2.2.2.1 = some .boolean ∧ (x = 0 ∨ x = 1))) ∨ ab_XT y pc
  | some (.long _) => decode y.2.1 pc = .ok (.lreturn, 1) ∧ y.2.2.2.1 = some .long
  | some (.ref _) => decode y.2.1 pc = .ok (.areturn, 1) ∧ ∃ n, y.2.2.2.1 = some (.object n)
  | some .null => decode y.2.1 pc = .ok (.areturn, 1) ∧ ∃ n, y.2.2.2.1 = some (.object n)
  | _ => False
def ab_K (y : ab_M) (mc ms : Nat) (P : Option Value → ab_HP → Prop) (p : Program) (l : Launch) (e : Env) (R : Room) (σ : State) (m : MethodId) (args : Array Value) (below : List Frame) (meth : Method) (cd : Code) (D : ab_G) (A : Nat → Prop) (Q : State → Prop) (ws : va_W) : Prop :=
  ∀ (v : Option Value) (u : ab_HP) (ws' : va_W) (H' : Heap) (locs' : List Loc) (ls' : Array Slot) (pc' : Nat) (cv : Option Value), P v u → ab_P ws ws' → ab_R D u ws' → va_P D.1 vwCl ws' H' → va_D A ws' → va_S A σ.heap H' locs' → ab_VO D.2.2.1 ws' v cv → ab_RI y pc' v → ls'.size = y.2.2.1 → W p l e R σ m args below meth cd H' locs' mc ms Q (F0 m pc' ls' cv.toList)
/-- THE JUDGEMENT: in any machine that runs method y, from the place pc with the locals lo, the operands st and the abstract world h, it comes to a return with P -/
def ab_T (y : ab_M) (d mc ms c s : Nat) (pc : Nat) (lo : List (Option Value)) (st : List Value) (h : ab_HP) (P : Option Value → ab_HP → Prop) : Prop :=
  ∀ (p : Program) (l : Launch) (e : Env) (R : Room) (σ : State) (m : MethodId) (args : Array Value) (below : List Frame) (meth : Method) (cd : Code) (D : ab_G) (A : Nat → Prop) (Q : State → Prop), ab_C y d mc ms l D A p R σ m args meth cd →
  ∀ (ws : va_W) (H : Heap) (locs : List Loc) (ls : Array Slot) (cst : List Value), ab_R D h ws → va_P D.1 vwCl ws H → va_D A ws → va_S A σ.heap H locs → ab_L D.2.2.1 ws y.2.2.1 lo ls → ab_S D.2.2.1 ws st cst →
  ab_K y mc ms P p l e R σ m args below meth cd D A Q ws →
  W p l e R σ m args below meth cd H locs c s Q (F0 m pc ls cst)
/-! the world moves -/
theorem ab_P.rf {ws : va_W} : ab_P ws ws := fun _ _ e h => ⟨e, h⟩
theorem ab_P.tr {a b c : va_W} (h1 : ab_P a b) (h2 : ab_P b c) : ab_P a c := fun q x e h => by
  obtain ⟨e1, g1⟩ := h1 q x e h
  exact h2 q x e1 g1
theorem ab_P.set {ws : va_W} {q a : Nat} {e0 e : va_E} (hq : ws[q]? = some (a, e0)) : ab_P ws (ws.set q (a, e)) := by
  intro r b x hr
  by_cases h : r = q
  · subst h
    rw [hq] at hr
    cases hr
    exact ⟨e, by rw [List.getElem?_set_self (List.getElem?_eq_some_iff.mp hq).1]⟩
  · exact ⟨x, by rw [List.getElem?_set_ne (Ne.symm h)]; exact hr⟩
theorem ab_P.app {ws l : va_W} : ab_P ws (ws ++ l) := fun q a e h => ⟨e, by rw [List.getElem?_append_left (List.getElem?_eq_some_iff.mp h).1]; exact h⟩
theorem ab_V.mono {b : Nat} {ws ws' : va_W} {v cv : Value} (hp : ab_P ws ws') (h : ab_V b ws v cv) : ab_V b ws' v cv := by
  cases v with
  | ref q =>
    obtain ⟨a, e, h1, h2⟩ := h
    obtain ⟨e', h3⟩ := hp q a e h1
    exact ⟨a, e', h3, h2⟩
  | _ => exact h
theorem ab_S.mono {b : Nat} {ws ws' : va_W} (hp : ab_P ws ws') : ∀ {st cst : List Value}, ab_S b ws st cst → ab_S b ws' st cst
  | [], _, h => h
  | _ :: _, _, ⟨cv, cst', h1, h2, h3⟩ => ⟨cv, cst', h1, h2.mono hp, ab_S.mono hp h3⟩
theorem ab_L.mono {b : Nat} {ws ws' : va_W} {n : Nat} {lo : List (Option Value)} {ls : Array Slot} (hp : ab_P ws ws') (h : ab_L b ws n lo ls) : ab_L b ws' n lo ls :=
  ⟨h.1, h.2.1, fun i v hv => by obtain ⟨cv, h1, h2⟩ := h.2.2 i v hv; exact ⟨cv, h1, h2.mono hp⟩⟩
theorem ab_ro.mono {ws ws' : va_W} {t : Nat} {o g : Option Nat} (hp : ab_P ws ws') (h : ab_ro ws t o g) : ab_ro ws' t o g := by
  cases o with
  | none => exact h
  | some q =>
    obtain ⟨h0, a, e, h1, h2⟩ := h
    obtain ⟨e', h3⟩ := hp q a e h1
    exact ⟨h0, a, e', h3, h2⟩
theorem ab_fv.mono {h h' : ab_HP} {ws ws' : va_W} {r k kd : Nat} {v : Value} (hp : ab_P ws ws') (hi : ab_i h' r k = ab_i h r k) (hl : ab_l h' r k = ab_l h r k) (hr : ab_r h' r k = ab_r h r k) (H : ab_fv h ws r k kd v) : ab_fv h' ws' r k kd v := by
  unfold ab_fv at H ⊢
  rw [hi, hl, hr]
  split
  · rwa [if_pos ‹_›] at H
  · rw [if_neg ‹_›] at H
    split
    · rwa [if_pos ‹_›] at H
    · rw [if_neg ‹_›] at H
      obtain ⟨g, h1, h2⟩ := H
      exact ⟨g, h1.mono hp, h2⟩
theorem ab_ce.mono {D : ab_G} {h h' : ab_HP} {ws ws' : va_W} {r : Nat} {e : va_E} (hp : ab_P ws ws') (hi : ∀ k, ab_i h' r k = ab_i h r k) (hl : ∀ k, ab_l h' r k = ab_l h r k) (hr : ∀ k, ab_r h' r k = ab_r h r k) (H : ab_ce D h ws r e) : ab_ce D h' ws' r e := by
  unfold ab_ce at H ⊢
  split
  · rw [if_pos ‹_›] at H
    obtain ⟨ci, fs, h1, h2, h3, h4⟩ := H
    exact ⟨ci, fs, h1, h2, h3, fun k kd hk => by obtain ⟨v, g1, g2⟩ := h4 k kd hk; exact ⟨v, g1, g2.mono hp (hi k) (hl k) (hr k)⟩⟩
  · rw [if_neg ‹_›] at H
    split
    · rw [if_pos ‹_›] at H
      rw [H, show ab_i h' r = ab_i h r from funext hi]
    · rw [if_neg ‹_›] at H
      split
      · rw [if_pos ‹_›] at H
        rw [H, show ab_l h' r = ab_l h r from funext hl]
      · rw [if_neg ‹_›] at H
        split
        · rw [if_pos ‹_›] at H
          obtain ⟨g, h1, h2⟩ := H
          exact ⟨g, h1, fun i => by rw [hr]; exact (h2 i).mono hp⟩
        · rw [if_neg ‹_›] at H
          obtain ⟨g, h1, h2⟩ := H
          exact ⟨g, h1, fun i => by rw [hr]; exact (h2 i).mono hp⟩
/-- one cell changes -/
theorem ab_R.set {D : ab_G} {h h' : ab_HP} {ws : va_W} {q a : Nat} {e0 e : va_E} (H : ab_R D h ws) (hq : ws[q]? = some (a, e0)) (hs : h'.1 = h.1) (hi : ∀ r, r ≠ q → ∀ k, ab_i h' r k = ab_i h r k) (hl : ∀ r, r ≠ q → ∀ k, ab_l h' r k = ab_l h r k) (hr : ∀ r, r ≠ q → ∀ k, ab_r h' r k = ab_r h r k) (he : ab_ce D h' (ws.set q (a, e)) q e) : ab_R D h' (ws.set q (a, e)) := by
  refine ⟨by rw [List.length_set, H.1, hs], fun r b x hx => ?_⟩
  by_cases hrq : r = q
  · subst hrq
    rw [List.getElem?_set_self (List.getElem?_eq_some_iff.mp hq).1] at hx
    cases hx
    exact he
  · rw [List.getElem?_set_ne (Ne.symm hrq)] at hx
    exact (H.2 r b x hx).mono (ab_P.set hq) (hi r hrq) (hl r hrq) (hr r hrq)
/-- one cell more -/
theorem ab_R.push {D : ab_G} {h : ab_HP} {ws : va_W} {a : Nat} {e : va_E} (H : ab_R D h ws) (he : ab_ce D (ab_nw h) (ws ++ [(a, e)]) h.1 e) : ab_R D (ab_nw h) (ws ++ [(a, e)]) := by
  have hn : (ws ++ [(a, e)]).length = h.1 + 1 := by rw [List.length_append, H.1]; rfl
  refine ⟨hn, fun r b x hx => ?_⟩
  have hlt := (List.getElem?_eq_some_iff.mp hx).1
  by_cases hr : r < h.1
  · rw [List.getElem?_append_left (by rw [H.1]; exact hr)] at hx
    have hne : ¬ r = h.1 := by omega
    exact (H.2 r b x hx).mono ab_P.app (fun k => by simp [ab_i, ab_nw, hne]) (fun k => by simp [ab_l, ab_nw, hne]) (fun k => by simp [ab_r, ab_nw, hne])
  · have hr2 : r = h.1 := by omega
    subst hr2
    rw [List.getElem?_append_right (by rw [H.1]; omega), H.1, Nat.sub_self] at hx
    cases hx
    exact he
end ABF
