section ABM
theorem ab_lo_len {b : Nat} {ws : va_W} : ∀ {as cas : List Value}, ab_S b ws as cas → (lg_sl cas).length = (ab_lo as).length
  | [], _, h => by
    have h : _ = [] := h
    subst h
    rfl
  | v :: as, _, ⟨cv, cst, rfl, hv, h⟩ => by
    have e1 := ab_lo_len h
    have e2 := ab_Vcat hv
    have e3 : lg_sl (cv :: cst) = (if cv.category = 2 then [Slot.val cv, .second] else [.val cv]) ++ lg_sl cst := rfl
    have e4 : ab_lo (v :: as) = some v :: (if v.category = 2 then none :: ab_lo as else ab_lo as) := rfl
    rw [e3, e4, e2]
    by_cases h2 : v.category = 2
    · rw [if_pos h2, if_pos h2]
      simp [e1]
    · rw [if_neg h2, if_neg h2]
      simp [e1]
theorem ab_lo_at {b : Nat} {ws : va_W} : ∀ {as cas : List Value} (i0 : Nat), ab_S b ws as cas → ∀ (i : Nat) (v : Value), (ab_lo as)[i]? = some (some v) → ∃ cv, (i0 + i, cv) ∈ lv_args i0 cas ∧ ab_V b ws v cv
  | [], _, _, h, i, v, hv => by simp [ab_lo] at hv
  | w :: as, _, i0, ⟨cv, cst, rfl, hw, h⟩, i, v, hv => by
    have e2 := ab_Vcat hw
    have e4 : ab_lo (w :: as) = some w :: (if w.category = 2 then none :: ab_lo as else ab_lo as) := rfl
    have e5 : lv_args i0 (cv :: cst) = (i0, cv) :: lv_args (if cv.category = 2 then i0 + 2 else i0 + 1) cst := rfl
    rw [e4] at hv
    rw [e5, e2]
    cases i with
    | zero =>
      have hv : some (some w) = some (some v) := hv
      cases hv
      exact ⟨cv, List.mem_cons_self, hw⟩
    | succ i =>
      by_cases h2 : w.category = 2
      · rw [if_pos h2] at hv ⊢
        cases i with
        | zero => exact absurd hv (by simp)
        | succ i =>
          obtain ⟨cv2, g1, g2⟩ := ab_lo_at (i0 + 2) h i v (by simpa using hv)
          exact ⟨cv2, List.mem_cons_of_mem _ (by rw [show i0 + (i + 1 + 1) = i0 + 2 + i by omega]; exact g1), g2⟩
      · rw [if_neg h2] at hv ⊢
        obtain ⟨cv2, g1, g2⟩ := ab_lo_at (i0 + 1) h i v (by simpa using hv)
        exact ⟨cv2, List.mem_cons_of_mem _ (by rw [show i0 + (i + 1) = i0 + 1 + i by omega]; exact g1), g2⟩
theorem ab_lo0_in {as : List Value} {n i : Nat} {v : Value} (h : (ab_lo0 as n)[i]? = some (some v)) : (ab_lo as)[i]? = some (some v) := by
  unfold ab_lo0 at h
  by_cases hl : i < (ab_lo as).length
  · rwa [List.getElem?_append_left hl] at h
  · rw [List.getElem?_append_right (by omega), List.getElem?_replicate] at h
    split at h <;> simp at h
/-- a method's contract, out of its walk from the entry -/
theorem ab_met {y : ab_M} {d mc ms : Nat} {as : List Value} {h : ab_HP} {P : Option Value → ab_HP → Prop} {lo : List (Option Value)} (hp : plainName y.1.cls = true) (hlaw : y.1.name ≠ "law") (hlen : (ab_lo as).length ≤ y.2.2.1) (hlo : ab_lo0 as y.2.2.1 = lo) (hT : ab_T y d mc ms 0 0 0 lo [] h P) (h0 : y.2.2.2.2.1 = 0 := by rfl) : ab_MET y d mc ms as h P := by
  intro l hfl D ws sz cas hR hS0
  refine Met.ofW (cc := y.2.1) (maxL := y.2.2.1) (ret := y.2.2.2.1) hp rfl ?_
  intro p e s m args below meth c s₁ B hml hv
  obtain ⟨rfl, hsz, hP, hKW, hD0⟩ := hv
  subst hsz
  have hts := atoms_spec (ws := ab_ws y) B.pre
  have hD := hD0.self (sz := s.heap.size)
  have hlen2 : (lg_sl cas).length ≤ y.2.2.1 := by rw [ab_lo_len hS0]; exact hlen
  rw [lg_entry_eq]
  have hl := lv_entry cas (n := y.2.2.1) hlen2
  generalize (lg_sl cas ++ List.replicate (y.2.2.1 - (lg_sl cas).length) Slot.unset).toArray = ls at hl ⊢
  have hr := B.returns
  have hlocks := B.notSynchronized
  refine hT p l e _ s m _ below meth c D (va_A ws s.heap.size) _ ⟨B.exec, B.bytes, hml, findClass_of_methodNamed B.named, fun w hw => hts w (List.mem_cons_of_mem _ hw), hKW, Nat.le_refl _, Nat.le_refl _, Nat.le_refl _, Nat.le_refl _, fun q hq => Or.inr hq, (name_of_methodNamed B.named B.method).1, hlocks, hr, hfl, fun q => absurd q hlaw, fun q => by rw [h0] at q; omega⟩ ws s.heap [] ls [] hR hP hD va_S.rf ⟨hl.1, hl.2.1, fun i v hv => ?_⟩ rfl ?_
  · subst hlo
    obtain ⟨cv, g1, g2⟩ := ab_lo_at 0 hS0 i v (ab_lo0_in hv)
    rw [Nat.zero_add] at g1
    exact ⟨cv, hl.2.2 _ g1, g2⟩
  · intro v u ws' H' locs' ls' pc' cv hpv hpp hR' hP' hD' hS' hvo hri _
    have hnx : ¬ ab_XT y pc' := fun q => by have := q.2; rw [h0] at this; omega
    have hq : ∀ t : State, t.heap = H' → ab_Qc P D ws s.heap.size cas.toArray s (.returned cv) t := fun t ht =>
      ⟨⟨v, u, ws', cv, rfl, hpv, hvo, hpp, hR', by rw [ht]; exact hP', hD'⟩, hS'.F ht⟩
    cases v with
    | none =>
      have hvo : cv = none := hvo
      subst hvo
      have hri := hri.resolve_right hnx
      exact W.vret B.exec B.bytes (hr.trans hri.2) (fun t ht _ => hq t ht) hS'.2.2 hri.1
    | some v =>
      obtain ⟨w, rfl, hvw⟩ := hvo
      cases v with
      | int x =>
        have hvw : w = .int x := hvw
        subst hvw
        have hri := hri.resolve_right hnx
        rcases hri.2 with h1 | ⟨h1, h2⟩
        · exact W.iret B.exec B.bytes (hr.trans h1) (fun t ht _ => hq t ht) hS'.2.2 hri.1
        · exact W.zret B.exec B.bytes (hr.trans h1) (by rcases h2 with rfl | rfl <;> rfl) (fun t ht _ => hq t ht) hS'.2.2 hri.1
      | long x =>
        have hvw : w = .long x := hvw
        subst hvw
        exact W.lret B.exec B.bytes (hr.trans hri.2) (fun t ht _ => hq t ht) hS'.2.2 hri.1
      | ref q =>
        obtain ⟨n, hn⟩ := hri.2
        obtain ⟨a, x0, -, rfl⟩ := hvw
        exact W.aret B.exec B.bytes (hr.trans hn) (Or.inl ⟨n, rfl⟩) (Or.inr ⟨a, rfl⟩) (fun t ht _ => hq t ht) hS'.2.2 hri.1
      | null =>
        obtain ⟨n, hn⟩ := hri.2
        have hvw : w = .null := hvw
        subst hvw
        exact W.aret B.exec B.bytes (hr.trans hn) (Or.inl ⟨n, rfl⟩) (Or.inl rfl) (fun t ht _ => hq t ht) hS'.2.2 hri.1
      | _ => exact hri.elim
end ABM
