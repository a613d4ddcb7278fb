section ABH
/-- a field as a class's code names it: kind t's place k, of kind kd -/
def ab_FA (own : String) (idx t k kd : Nat) (fin w : Bool) : Prop := t < 6 ∧ (ab_fk t)[k]? = some kd ∧ ∃ ref decl nm ds : String, Cond.fieldLink own idx ref nm ds ∈ ab_TS ∧ (ref = decl ∨ Cond.sameField ref decl nm ds ∈ ab_TS) ∧ (∀ ci ∈ ab_cls t, (vwCl[ci]?.map fun q => (q.2.1 k, decide (k < q.2.2))) = some ((decl, nm, ds, fin), true)) ∧ parseFieldDescriptor ds = some (ab_kty kd) ∧ (w = true → decl = own)
theorem ab_kty_ref (n : Nat) : (∃ C, ab_kty (n + 3) = .object C) ∨ ∃ t, ab_kty (n + 3) = .array t :=
  match n with
  | 0 | 1 | 2 | 3 | 4 | 5 => Or.inl ⟨_, rfl⟩
  | 6 | 7 | 8 => Or.inr ⟨_, rfl⟩
  | _ + 9 => Or.inr ⟨_, rfl⟩
theorem ab_nar_ref {ty : FieldType} (h : (∃ C, ty = .object C) ∨ ∃ t, ty = .array t) (g : Option Nat) : narrow ty (va_rf g) = va_rf g ∧ fits ty (va_rf g) = true := by
  rcases h with ⟨C, rfl⟩ | ⟨t, rfl⟩ <;> cases g <;> exact ⟨rfl, rfl⟩
theorem ab_vw {ci k : Nat} {decl nm ds : String} {fin : Bool} (h : (vwCl[ci]?.map fun q => (q.2.1 k, decide (k < q.2.2))) = some ((decl, nm, ds, fin), true)) : ∃ C T N, vwCl[ci]? = some (C, T, N) ∧ k < N ∧ T k = (decl, nm, ds, fin) := by
  cases hv : vwCl[ci]? with
  | none => rw [hv] at h; cases h
  | some r =>
    obtain ⟨C, T, N⟩ := r
    rw [hv] at h
    have h2 := Option.some.inj h
    exact ⟨C, T, N, rfl, of_decide_eq_true (congrArg Prod.snd h2), congrArg Prod.fst h2⟩
section
variable {y : ab_M} {d mc ms c s pc pc2 : Nat} {lo : List (Option Value)} {st : List Value} {h : ab_HP} {P : Option Value → ab_HP → Prop}
variable {p : Program} {l : Launch} {e : Env} {R : Room} {σ : State} {m : MethodId} {args : Array Value} {below : List Frame} {meth : Method} {cd : Code} {D : ab_G} {A : Nat → Prop} {Q : State → Prop} {ws : va_W} {H : Heap} {locs : List Loc} {ls : Array Slot} {cst : List Value}
theorem ab_get0 {q a t k kd idx : Nat} {fin : Bool} {x0 : va_E} (C : ab_C y d mc ms l D A p R σ m args meth cd) (hR : ab_R D h ws) (hP : va_P D.1 vwCl ws H) (ha : ws[q]? = some (a, x0)) (ht : (ab_shp q).1 = t) {w : Bool} (fa : ab_FA y.1.cls idx t k kd fin w) (hd : decode y.2.1 pc = .ok (.getfield idx, 3)) :
    ∃ v, ab_fv h ws q k kd v ∧ (W p l e R σ m args below meth cd H locs c s Q (F0 m (pc + 3) ls (v :: cst)) → W p l e R σ m args below meth cd H locs c s Q (F0 m pc ls (.ref a :: cst))) := by
  obtain ⟨f1, f2, ref, decl, nm, ds, f3, f4, f5, f6, f7⟩ := fa
  subst ht
  obtain ⟨ci, fs, hci, rfl, hlen, hf⟩ := ab_obj hR ha f1
  obtain ⟨v, hv1, hv2⟩ := hf k kd f2
  obtain ⟨C', T, N, hc, hk, hTk⟩ := ab_vw (f5 ci hci)
  obtain ⟨hx, hb, hml, hown, hts, hKW, -⟩ := C
  refine ⟨v, hv2, fun kW => va_get (own := y.1.cls) (ref := ref) hx hb hts (ab_ci ci C' T N hc).1 hown hKW.1 hP q ha hc k hk (by rw [hTk]; exact hts _ f3) (fun x h9 => ?_) hv1 hd kW⟩
  rw [hTk] at h9 ⊢
  rcases f4 with rfl | f4
  · exact h9
  · exact u_same (hts _ f4) x h9
theorem ab_put0 {q a t k kd idx : Nat} {fin : Bool} {x0 : va_E} (C : ab_C y d mc ms l D A p R σ m args meth cd) (hR : ab_R D h ws) (hP : va_P D.1 vwCl ws H) (hD : va_D A ws) (hS : va_S A σ.heap H locs) (ha : ws[q]? = some (a, x0)) (ht : (ab_shp q).1 = t) (fa : ab_FA y.1.cls idx t k kd fin fin) (hfi : fin = true → y.1.name = "<init>") (hd : decode y.2.1 pc = .ok (.putfield idx, 3)) :
    ∃ ci fs, x0 = .inr (ci, fs) ∧ ∀ v, narrow (ab_kty kd) v = v → fits (ab_kty kd) v = true → (∀ H1 locs1, va_P D.1 vwCl (ws.set q (a, .inr (ci, fs.set k v))) H1 → va_D A (ws.set q (a, .inr (ci, fs.set k v))) → va_S A σ.heap H1 locs1 → W p l e R σ m args below meth cd H1 locs1 c s Q (F0 m (pc + 3) ls cst)) →
      W p l e R σ m args below meth cd H locs c s Q (F0 m pc ls (v :: .ref a :: cst)) := by
  obtain ⟨f1, f2, ref, decl, nm, ds, f3, f4, f5, f6, f7⟩ := fa
  subst ht
  obtain ⟨ci, fs, hci, rfl, hlen, hf⟩ := ab_obj hR ha f1
  obtain ⟨v0, hv1, -⟩ := hf k kd f2
  have hkl : k < fs.length := (List.getElem?_eq_some_iff.mp hv1).1
  obtain ⟨C', T, N, hc, hk, hTk⟩ := ab_vw (f5 ci hci)
  obtain ⟨g1, ⟨ty0, g2⟩, g3⟩ := ab_ci ci C' T N hc
  obtain ⟨hx, hb, hml, hown, hts, hKW, -, -, -, -, -, hnm, -⟩ := C
  have hsame : ∀ x, σ.fieldFound? (T k).1 (T k).2.1 (T k).2.2.1 = some x → σ.fieldFound? ref (T k).2.1 (T k).2.2.1 = some x := fun x h9 => by
    rw [hTk] at h9 ⊢
    rcases f4 with rfl | f4
    · exact h9
    · exact u_same (hts _ f4) x h9
  refine ⟨ci, fs, rfl, fun v hn hfit kW => ?_⟩
  cases fin with
  | false => exact va_put (own := y.1.cls) (ref := ref) (ty := ab_kty kd) hx hb hts g1 ty0 g2 g3 hown hKW.1 hP hD hS q ha hc k hk (by rw [hTk]; exact hts _ f3) hsame (by rw [hTk]) (by rw [hTk]; exact f6) hn hfit hkl hd kW
  | true => exact va_putF (own := y.1.cls) (ref := ref) (ty := ab_kty kd) hx hb hts g1 ty0 g2 g3 hown hKW.1 hP hD hS q ha hc k hk (by rw [hTk]; exact hts _ f3) hsame (by rw [hTk]) (hnm.trans (hfi rfl)) (by rw [hTk]; exact f7 rfl) (by rw [hTk]; exact f6) hn hfit hkl hd kW
theorem ab_R_put {h2 : ab_HP} {q a ci k kd : Nat} {fs : List Value} {v : Value} (hR : ab_R D h ws) (ha : ws[q]? = some (a, .inr (ci, fs))) (ht : (ab_shp q).1 < 6) (hkd : (ab_fk (ab_shp q).1)[k]? = some kd) (hs : h2.1 = h.1) (hi : ∀ r j, ¬ (r = q ∧ j = k) → ab_i h2 r j = ab_i h r j) (hl : ∀ r j, ¬ (r = q ∧ j = k) → ab_l h2 r j = ab_l h r j) (hr : ∀ r j, ¬ (r = q ∧ j = k) → ab_r h2 r j = ab_r h r j)
    (hv : ab_fv h2 (ws.set q (a, .inr (ci, fs.set k v))) q k kd v) : ab_R D h2 (ws.set q (a, .inr (ci, fs.set k v))) := by
  refine hR.set ha hs (fun r hr2 j => hi r j (fun z => hr2 z.1)) (fun r hr2 j => hl r j (fun z => hr2 z.1)) (fun r hr2 j => hr r j (fun z => hr2 z.1)) ?_
  obtain ⟨ci2, fs2, hci, hx, hlen, hf⟩ := ab_obj hR ha ht
  cases hx
  unfold ab_ce
  rw [if_pos ht]
  refine ⟨ci, fs.set k v, hci, rfl, by rw [List.length_set]; exact hlen, fun j kd2 hj => ?_⟩
  by_cases hjk : j = k
  · subst hjk
    rw [hkd] at hj
    cases hj
    obtain ⟨v0, hv1, -⟩ := hf j kd hkd
    exact ⟨v, by rw [List.getElem?_set_self (List.getElem?_eq_some_iff.mp hv1).1], hv⟩
  · obtain ⟨w, hw1, hw2⟩ := hf j kd2 hj
    exact ⟨w, by rw [List.getElem?_set_ne (Ne.symm hjk)]; exact hw1, hw2.mono (ab_P.set ha) (hi q j (fun z => hjk z.2)) (hl q j (fun z => hjk z.2)) (hr q j (fun z => hjk z.2))⟩
end
section
variable {y : ab_M} {d mc ms c s pc pc2 q t k kd idx : Nat} {fin : Bool} {x : Option Nat} {lo : List (Option Value)} {st : List Value} {h : ab_HP} {P : Option Value → ab_HP → Prop}
theorem ab_getI (hx : x = some q) (ht : (ab_shp q).1 = t) {w : Bool} (fa : ab_FA y.1.cls idx t k kd fin w) (hkd : kd < 2) (hd : decode y.2.1 pc = .ok (.getfield idx, 3)) (hn : pc + 3 = pc2) (kk : ab_T y d mc ms c s pc2 lo (.int (ab_i h q k) :: st) h P) : ab_T y d mc ms c s pc lo (va_rf x :: st) h P := by
  intro p l e R σ m args below meth cd D A Q C ws H locs ls cst hR hP hD hS hL hT hK
  subst hn hx
  obtain ⟨c1, s1, rfl, ⟨a, x0, ha, rfl⟩, hT⟩ := hT
  obtain ⟨v, hv, kW⟩ := ab_get0 (e := e) (below := below) (Q := Q) (locs := locs) (ls := ls) (cst := s1) (c := c) (s := s) C hR hP ha ht fa hd
  unfold ab_fv at hv
  rw [if_pos hkd] at hv
  subst hv
  exact kW (kk p l e R σ m args below meth cd D A Q C ws H locs ls _ hR hP hD hS hL ⟨_, _, rfl, rfl, hT⟩ hK)
theorem ab_getL (hx : x = some q) (ht : (ab_shp q).1 = t) {w : Bool} (fa : ab_FA y.1.cls idx t k 2 fin w) (hd : decode y.2.1 pc = .ok (.getfield idx, 3)) (hn : pc + 3 = pc2) (kk : ab_T y d mc ms c s pc2 lo (.long (ab_l h q k) :: st) h P) : ab_T y d mc ms c s pc lo (va_rf x :: st) h P := by
  intro p l e R σ m args below meth cd D A Q C ws H locs ls cst hR hP hD hS hL hT hK
  subst hn hx
  obtain ⟨c1, s1, rfl, ⟨a, x0, ha, rfl⟩, hT⟩ := hT
  obtain ⟨v, hv, kW⟩ := ab_get0 (e := e) (below := below) (Q := Q) (locs := locs) (ls := ls) (cst := s1) (c := c) (s := s) C hR hP ha ht fa hd
  have hv : v = .long (ab_l h q k) := hv
  subst hv
  exact kW (kk p l e R σ m args below meth cd D A Q C ws H locs ls _ hR hP hD hS hL ⟨_, _, rfl, rfl, hT⟩ hK)
theorem ab_ro_V {b t : Nat} {ws : va_W} {o g : Option Nat} (hg : ab_ro ws t o g) : ab_V b ws (va_rf o) (va_rf g) ∧ ∀ z, o = some z → (ab_shp z).1 = t := by
  cases o with
  | none =>
    have hg : g = none := hg
    subst hg
    exact ⟨rfl, fun z hz => by cases hz⟩
  | some q =>
    obtain ⟨g1, a, x0, g2, rfl⟩ := hg
    exact ⟨⟨a, x0, g2, rfl⟩, fun z hz => by cases hz; exact g1⟩
theorem ab_V_ro {b t : Nat} {ws : va_W} {o : Option Nat} {cv : Value} (hv : ab_V b ws (va_rf o) cv) (ht : ∀ z, o = some z → (ab_shp z).1 = t) : ∃ g, cv = va_rf g ∧ ab_ro ws t o g := by
  cases o with
  | none => exact ⟨none, hv, rfl⟩
  | some q =>
    obtain ⟨a, x0, h1, rfl⟩ := hv
    exact ⟨some a, rfl, ht q rfl, a, x0, h1, rfl⟩
theorem ab_getR {t2 : Nat} (hx : x = some q) (ht : (ab_shp q).1 = t) {w : Bool} (fa : ab_FA y.1.cls idx t k (t2 + 3) fin w) (hd : decode y.2.1 pc = .ok (.getfield idx, 3)) (hn : pc + 3 = pc2) (kk : (∀ z, ab_r h q k = some z → (ab_shp z).1 = t2) → ab_T y d mc ms c s pc2 lo (va_rf (ab_r h q k) :: st) h P) : ab_T y d mc ms c s pc lo (va_rf x :: st) h P := by
  intro p l e R σ m args below meth cd D A Q C ws H locs ls cst hR hP hD hS hL hT hK
  subst hn hx
  obtain ⟨c1, s1, rfl, ⟨a, x0, ha, rfl⟩, hT⟩ := hT
  obtain ⟨v, hv, kW⟩ := ab_get0 (e := e) (below := below) (Q := Q) (locs := locs) (ls := ls) (cst := s1) (c := c) (s := s) C hR hP ha ht fa hd
  unfold ab_fv at hv
  rw [if_neg (by omega), if_neg (by omega)] at hv
  obtain ⟨g, hg, rfl⟩ := hv
  obtain ⟨g1, g2⟩ := ab_ro_V (b := D.2.2.1) hg
  exact kW (kk g2 p l e R σ m args below meth cd D A Q C ws H locs ls _ hR hP hD hS hL ⟨_, _, rfl, g1, hT⟩ hK)
theorem ab_putI {v : Int32} (hx : x = some q) (ht : (ab_shp q).1 = t) (fa : ab_FA y.1.cls idx t k kd fin fin) (hkd : kd = 0 ∨ kd = 1 ∧ (v = 0 ∨ v = 1)) (hfi : fin = true → y.1.name = "<init>") (hd : decode y.2.1 pc = .ok (.putfield idx, 3)) (hn : pc + 3 = pc2) (kk : ab_T y d mc ms c s pc2 lo st (ab_ip h q k v) P) : ab_T y d mc ms c s pc lo (.int v :: va_rf x :: st) h P := by
  intro p l e R σ m args below meth cd D A Q C ws H locs ls cst hR hP hD hS hL hT hK
  subst hn hx
  obtain ⟨c1, s1, rfl, g1, c2, s2, rfl, ⟨a, x0, ha, rfl⟩, hT⟩ := hT
  have g1 : c1 = .int v := g1
  subst g1
  obtain ⟨ci, fs, rfl, kW⟩ := ab_put0 (e := e) (below := below) (Q := Q) (ls := ls) (cst := s2) (c := c) (s := s) C hR hP hD hS ha ht fa hfi hd
  have hnf : narrow (ab_kty kd) (.int v) = .int v ∧ fits (ab_kty kd) (.int v) = true := by
    rcases hkd with rfl | ⟨rfl, rfl | rfl⟩ <;> exact ⟨rfl, rfl⟩
  have hk2 : kd < 2 := by omega
  refine kW (.int v) hnf.1 hnf.2 fun H1 locs1 hP1 hD1 hS1 => ?_
  have hp := ab_P.set (e := .inr (ci, fs.set k (.int v))) ha
  subst ht
  refine kk p l e R σ m args below meth cd D A Q C _ H1 locs1 ls _ (ab_R_put hR ha fa.1 fa.2.1 rfl (fun r j hn => ?_) (fun _ _ _ => rfl) (fun _ _ _ => rfl) ?_) hP1 hD1 hS1 (hL.mono hp) (hT.mono hp) (fun v2 u2 ws2 H2 locs2 ls2 pc2 cv2 q1 q2 => hK v2 u2 ws2 H2 locs2 ls2 pc2 cv2 q1 (hp.tr q2))
  · show (if r = q ∧ j = k then v else h.2.1 r j) = h.2.1 r j
    rw [if_neg hn]
  · unfold ab_fv
    rw [if_pos hk2]
    show Value.int v = .int (if q = q ∧ k = k then v else h.2.1 q k)
    rw [if_pos ⟨rfl, rfl⟩]
theorem ab_putL {v : Int64} (hx : x = some q) (ht : (ab_shp q).1 = t) (fa : ab_FA y.1.cls idx t k 2 fin fin) (hfi : fin = true → y.1.name = "<init>") (hd : decode y.2.1 pc = .ok (.putfield idx, 3)) (hn : pc + 3 = pc2) (kk : ab_T y d mc ms c s pc2 lo st (ab_lp h q k v) P) : ab_T y d mc ms c s pc lo (.long v :: va_rf x :: st) h P := by
  intro p l e R σ m args below meth cd D A Q C ws H locs ls cst hR hP hD hS hL hT hK
  subst hn hx
  obtain ⟨c1, s1, rfl, g1, c2, s2, rfl, ⟨a, x0, ha, rfl⟩, hT⟩ := hT
  have g1 : c1 = .long v := g1
  subst g1
  obtain ⟨ci, fs, rfl, kW⟩ := ab_put0 (e := e) (below := below) (Q := Q) (ls := ls) (cst := s2) (c := c) (s := s) C hR hP hD hS ha ht fa hfi hd
  refine kW (.long v) rfl rfl fun H1 locs1 hP1 hD1 hS1 => ?_
  have hp := ab_P.set (e := .inr (ci, fs.set k (.long v))) ha
  subst ht
  refine kk p l e R σ m args below meth cd D A Q C _ H1 locs1 ls _ (ab_R_put hR ha fa.1 fa.2.1 rfl (fun _ _ _ => rfl) (fun r j hn => ?_) (fun _ _ _ => rfl) ?_) hP1 hD1 hS1 (hL.mono hp) (hT.mono hp) (fun v2 u2 ws2 H2 locs2 ls2 pc2 cv2 q1 q2 => hK v2 u2 ws2 H2 locs2 ls2 pc2 cv2 q1 (hp.tr q2))
  · show (if r = q ∧ j = k then v else h.2.2.1 r j) = h.2.2.1 r j
    rw [if_neg hn]
  · show Value.long v = .long (if q = q ∧ k = k then v else h.2.2.1 q k)
    rw [if_pos ⟨rfl, rfl⟩]
theorem ab_putR {t2 : Nat} {v : Option Nat} (hx : x = some q) (ht : (ab_shp q).1 = t) (fa : ab_FA y.1.cls idx t k (t2 + 3) fin fin) (hv : ∀ z, v = some z → (ab_shp z).1 = t2) (hfi : fin = true → y.1.name = "<init>") (hd : decode y.2.1 pc = .ok (.putfield idx, 3)) (hn : pc + 3 = pc2) (kk : ab_T y d mc ms c s pc2 lo st (ab_rp h q k v) P) : ab_T y d mc ms c s pc lo (va_rf v :: va_rf x :: st) h P := by
  intro p l e R σ m args below meth cd D A Q C ws H locs ls cst hR hP hD hS hL hT hK
  subst hn hx
  obtain ⟨c1, s1, rfl, g1, c2, s2, rfl, ⟨a, x0, ha, rfl⟩, hT⟩ := hT
  obtain ⟨g, rfl, hg⟩ := ab_V_ro g1 hv
  obtain ⟨ci, fs, rfl, kW⟩ := ab_put0 (e := e) (below := below) (Q := Q) (ls := ls) (cst := s2) (c := c) (s := s) C hR hP hD hS ha ht fa hfi hd
  have hnf := ab_nar_ref (ab_kty_ref t2) g
  refine kW (va_rf g) hnf.1 hnf.2 fun H1 locs1 hP1 hD1 hS1 => ?_
  have hp := ab_P.set (e := .inr (ci, fs.set k (va_rf g))) ha
  subst ht
  refine kk p l e R σ m args below meth cd D A Q C _ H1 locs1 ls _ (ab_R_put hR ha fa.1 fa.2.1 rfl (fun _ _ _ => rfl) (fun _ _ _ => rfl) (fun r j hn => ?_) ?_) hP1 hD1 hS1 (hL.mono hp) (hT.mono hp) (fun v2 u2 ws2 H2 locs2 ls2 pc2 cv2 q1 q2 => hK v2 u2 ws2 H2 locs2 ls2 pc2 cv2 q1 (hp.tr q2))
  · show (if r = q ∧ j = k then v else h.2.2.2 r j) = h.2.2.2 r j
    rw [if_neg hn]
  · unfold ab_fv
    rw [if_neg (by omega), if_neg (by omega)]
    refine ⟨g, ?_, rfl⟩
    have e1 : ab_r (ab_rp h q k v) q k = v := by
      show (if q = q ∧ k = k then v else h.2.2.2 q k) = v
      rw [if_pos ⟨rfl, rfl⟩]
    rw [e1]
    exact hg.mono hp
end
end ABH
