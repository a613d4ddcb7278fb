section ABW
/-! methods with a table of their own (they catch): called by a name -/
def ab_codeW (y : ab_M) (hh : List (Nat × Nat × Nat × Nat)) : Cond := .codeWith y.1 y.2.1 y.2.2.1 y.2.2.2.1 hh
def ab_wsW (y : ab_M) (hh : List (Nat × Nat × Nat × Nat)) : List Cond := ab_codeW y hh :: ab_TS
def ab_METW (y : ab_M) (hh : List (Nat × Nat × Nat × Nat)) (d mc ms : Nat) (as : List Value) (h : ab_HP) (P : Option Value → ab_HP → Prop) : Prop :=
  ∀ (l : Launch), l.flags = flags0 → ∀ (D : ab_G) (ws : va_W) (sz : Nat) (cas : List Value), ab_R D h ws → ab_S D.2.2.1 ws as cas →
    Met l y.1 (ab_wsW y hh) (ab_rm d mc ms) (va_Pc cas (fun U => ab_Wd D ws sz U ∧ ab_ZZ (va_A ws sz) U)) (ab_Qc P D ws sz) mc ms (va_A ws sz)
theorem ab_blindW {D : ab_G} {ws : va_W} {sz : Nat} {cas : List Value} : FrameBlind (va_Pc cas (fun U => ab_Wd D ws sz U ∧ ab_ZZ (va_A ws sz) U)) := by
  intro a U g mk q
  obtain ⟨q0, ⟨q1, q2, q3, q4⟩, q5⟩ := q
  exact ⟨q0, ⟨q1, q2, ab_KW.vm (s := U) (U := U.calling g mk a) rfl q3, q4⟩, ab_ZZ.vm (s := U) (U := U.calling g mk a) rfl rfl q5⟩
def ab_MFW (z : ab_M) (hh : List (Nat × Nat × Nat × Nat)) (n : Nat) : Prop := ab_codeW z hh ∈ ab_TS ∧ Cond.initialized z.1.cls ∈ ab_TS ∧ (z.1.cls ≠ "java/lang/invoke/MethodHandle" ∧ z.1.cls ≠ "java/lang/invoke/VarHandle") ∧ (parseMethodDescriptor z.1.desc).map (fun d => d.parameters.length) = some n ∧ z.2.2.1 ≤ 40
theorem ab_wsW_good {y : ab_M} {hh : List (Nat × Nat × Nat × Nat)} (hy : ab_codeW y hh ∈ ab_TS) : GoodIn ab_TS (ab_wsW y hh) := by
  intro w hw
  rcases List.mem_cons.mp hw with rfl | hw
  · exact ⟨hy, good_of_word (ab_TS_good _ hy)⟩
  · exact ⟨hw, good_of_word (ab_TS_good _ hw)⟩
section
variable {y z : ab_M} {d mc ms c s d' mc' ms' idx pc pc2 : Nat} {lo : List (Option Value)} {as st stk : List Value} {h : ab_HP} {P P' : Option Value → ab_HP → Prop} {hh : List (Nat × Nat × Nat × Nat)}
theorem ab_callSW (hlaw : y.1.name = "law") (hM : ab_METW z hh d' mc' ms' as h P') (mf : ab_MFW z hh as.length) (hlk : Cond.methodLink y.1.cls idx z.1 ∈ ab_TS) (hsta : Cond.static z.1 ∈ ab_TS) (hd : decode y.2.1 pc = .ok (.invokestatic idx, 3)) (hn : pc + 3 = pc2) (hdd : d' + 1 ≤ d) (hc : c + mc' ≤ mc) (hs : s + ms' ≤ ms)
    (hst : as.reverse ++ st = stk) (hlen : st.length ≤ 4) (k : ∀ v u, P' v u → ab_T y d mc ms (c + mc') (s + ms') pc2 lo (v.toList ++ st) u P) : ab_T y d mc ms c s pc lo stk h P := by
  intro p l e R σ m args below meth cd D A Q C ws H locs ls cst hR hP hD hS hL hT hK
  subst hst hn
  obtain ⟨ca, cr, rfl, g1, g2⟩ := ab_S_app hT
  have g1r := ab_S_rev g1
  rw [List.reverse_reverse] at g1r
  have hC := C
  obtain ⟨hx, hb, hml, hown, hts, hKW, hfr, hlo, hmc, hms, hA, hnm, hlk2, hret, hfl, hsc⟩ := C
  obtain ⟨-, -, -, hZ⟩ := hsc.1 hlaw
  obtain ⟨m1, m2, m3, m4, m5⟩ := mf
  have hF : ∀ q : Nat, va_A ws H.size q → A q := by
    intro q h
    rcases h with ⟨k, x, h⟩ | h
    · exact hD.2 k _ h
    · exact hA q (Nat.le_trans hS.1 h)
  have hpre : PreS σ H (va_Pc ca.reverse (fun U => ab_Wd D ws H.size U ∧ ab_ZZ (va_A ws H.size) U)) ca.reverse :=
    ⟨ab_blindW, fun U hU hW => ⟨rfl, ⟨by rw [hU], by rw [hU]; exact hP, hKW.warm hW, hD.weaken fun _ _ _ _ => trivial⟩, hZ.to hW hU hS hF⟩⟩
  refine ab_after (vx_runSW (hh := hh) (cc := y.2.1) (nL := y.2.2.1) (Ts := ab_TS) (own := y.1.cls) (As := ca.reverse) (rest := cr) (n := as.length) ⟨hx, hb, hml, hown, hts⟩ (hM l hfl D ws H.size ca.reverse hR g1r) ⟨⟨rfl, rfl, by show d' + 1 ≤ R.frames; omega, by show 8 + (z.2.2.1 + 11) + 64 * d' ≤ R.locals; omega, pay_in hts (ab_wsW_good m1), List.mem_cons_self⟩, hts _ m1, hts _ m2, m3, fun sig h => ?_, hts _ hlk, hts _ hsta⟩ hpre
    rfl (by rw [ab_S_len g1r]) hL.1 (by rw [List.reverse_reverse]) (lv_room (Nat.le_trans (ab_cats cr) (by rw [ab_S_len g2]; omega))) hd ⟨Nat.le_trans hc hmc, Nat.le_trans hs hms⟩) hD hS hA fun v u ws' cv H1 locs1 hp hvo hpp hR' hP' hD' hS' => ?_
  · rw [h] at m4
    exact (Option.some.inj m4).symm
  · exact k v u hp p l e R σ m args below meth cd D A Q hC ws' H1 locs1 ls _ hR' hP' hD' hS' (hL.mono hpp) (ab_toV hvo (g2.mono hpp)) (fun v2 u2 ws2 H2 locs2 ls2 pc2 cv2 q1 q2 => hK v2 u2 ws2 H2 locs2 ls2 pc2 cv2 q1 (hpp.tr q2))
theorem ab_callVW {q t : Nat} {o : Option Nat} (hlaw : y.1.name = "law") (ho : o = some q) (ht : (ab_shp q).1 = t) (ht6 : t < 6) (hM : ab_METW z hh d' mc' ms' (va_rf (some q) :: as) h P') (mf : ab_MFW z hh as.length) (hlk : Cond.methodLink y.1.cls idx z.1 ∈ ab_TS) (hins : Cond.instanceMethod z.1 ∈ ab_TS)
    (hsel : (∀ ci ∈ ab_cls t, ∃ r : vw_C, vwCl[ci]? = some r ∧ Cond.selects r.1 z.1 z.1 ∈ ab_TS)) (hd : decode y.2.1 pc = .ok (.invokevirtual idx, 3)) (hn : pc + 3 = pc2) (hdd : d' + 1 ≤ d) (hc : c + mc' ≤ mc) (hs : s + ms' ≤ ms)
    (hst : as.reverse ++ va_rf o :: st = stk) (hlen : st.length ≤ 4) (k : ∀ v u, P' v u → ab_T y d mc ms (c + mc') (s + ms') pc2 lo (v.toList ++ st) u P) : ab_T y d mc ms c s pc lo stk h P := by
  intro p l e R σ m args below meth cd D A Q C ws H locs ls cst hR hP hD hS hL hT hK
  subst ho hst hn
  obtain ⟨ca, cr, rfl, g1, cv0, cr', rfl, ⟨a, x0, ha, hcv⟩, g2⟩ := ab_S_app hT
  subst hcv
  have g1r := ab_S_rev g1
  rw [List.reverse_reverse] at g1r
  have hC := C
  obtain ⟨hx, hb, hml, hown, hts, hKW, hfr, hlo, hmc, hms, hA, hnm, hlk2, hret, hfl, hsc⟩ := C
  obtain ⟨-, -, -, hZ⟩ := hsc.1 hlaw
  obtain ⟨m1, m2, m3, m4, m5⟩ := mf
  have hF : ∀ q : Nat, va_A ws H.size q → A q := by
    intro q h
    rcases h with ⟨k, x, h⟩ | h
    · exact hD.2 k _ h
    · exact hA q (Nat.le_trans hS.1 h)
  obtain ⟨ci, fs, hci, rfl, -⟩ := ab_obj hR ha (by omega)
  obtain ⟨r, hr, hsel⟩ := hsel ci (by rw [← ht]; exact hci)
  have hMl := hM l hfl D ws H.size (.ref a :: ca.reverse) hR ⟨_, _, rfl, ⟨a, _, ha, rfl⟩, g1r⟩
  have hp : PreV σ H r.1 a (va_Pc (.ref a :: ca.reverse) (fun U => ab_Wd D ws H.size U ∧ ab_ZZ (va_A ws H.size) U)) ca.reverse := ⟨ab_blindW, va_recv hKW.1 hP (ci := ci) (q0 := q) hr ha, fun U hU hW => ⟨rfl, ⟨by rw [hU], by rw [hU]; exact hP, hKW.warm hW, hD.weaken fun _ _ _ _ => trivial⟩, hZ.to hW hU hS hF⟩⟩
  refine ab_after (vx_runVW (hh := hh) (cc := y.2.1) (nL := y.2.2.1) (Ts := ab_TS) (own := y.1.cls) (As := ca.reverse) (rest := cr') (b := a) (C := r.1) (n := as.length) ⟨hx, hb, hml, hown, hts⟩ hMl ⟨⟨rfl, rfl, by show d' + 1 ≤ R.frames; omega, by show 8 + (z.2.2.1 + 11) + 64 * d' ≤ R.locals; omega, pay_in hts (ab_wsW_good m1), List.mem_cons_self⟩, hts _ m1, hts _ m2, m3, fun sig h => ?_, hts _ hlk, hts _ hins, hts _ hsel⟩ hp
    rfl (by rw [ab_S_len g1r]) hL.1 (by rw [List.reverse_reverse]) (lv_room (Nat.le_trans (ab_cats cr') (by rw [ab_S_len g2]; omega))) hd ⟨Nat.le_trans hc hmc, Nat.le_trans hs hms⟩) hD hS hA fun v u ws' cv H1 locs1 hp hvo hpp hR' hP' hD' hS' => ?_
  · rw [h] at m4
    exact (Option.some.inj m4).symm
  · exact k v u hp p l e R σ m args below meth cd D A Q hC ws' H1 locs1 ls _ hR' hP' hD' hS' (hL.mono hpp) (ab_toV hvo (g2.mono hpp)) (fun v2 u2 ws2 H2 locs2 ls2 pc2 cv2 q1 q2 => hK v2 u2 ws2 H2 locs2 ls2 pc2 cv2 q1 (hpp.tr q2))
end
end ABW
