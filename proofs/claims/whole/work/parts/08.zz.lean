section ABZ
/-- what a throw rests on: two static fields of Throwable, their cells apart from A; and what the tables say of strings and classes -/
def ab_ZV (U : State) : Prop := True
def ab_ZZ (A : Nat → Prop) (U : State) : Prop := vx_Zq Bundle.tN "UNASSIGNED_STACK" Bundle.steD A U U.heap ∧ vx_Zq Bundle.tN "SUPPRESSED_SENTINEL" Bundle.listD A U U.heap ∧ ab_ZV U
theorem ab_ZV.warm {s U : State} (hW : s.WarmedH U.vm) (h : ab_ZV s) : ab_ZV U := trivial
theorem ab_ZV.vm {s U : State} (hW : s.vm = U.vm) (h : ab_ZV s) : ab_ZV U := trivial
theorem ab_ZZ.to {A A2 : Nat → Prop} {s U : State} {H : Heap} {locs : List Loc} (h : ab_ZZ A s) (hW : s.WarmedH U.vm) (hH : U.heap = H) (hS : va_S A s.heap H locs) (hA : ∀ q, A2 q → A q) : ab_ZZ A2 U := by
  subst hH
  obtain ⟨h1, h2, h3⟩ := h
  exact ⟨((vx_Zq.moved hW.alike h1).kept hS.2.1).narrow hA, ((vx_Zq.moved hW.alike h2).kept hS.2.1).narrow hA, h3.warm hW⟩
theorem ab_ZZ.vm {A : Nat → Prop} {s U : State} (hW : s.vm = U.vm) (hH : s.heap = U.heap) (h : ab_ZZ A s) : ab_ZZ A U := by
  obtain ⟨h1, h2, h3⟩ := h
  have hA : s.vm.Alike U.vm := hW ▸ Vm.Alike.refl s.vm
  rw [hH] at h1 h2
  exact ⟨vx_Zq.moved hA h1, vx_Zq.moved hA h2, h3.vm hW⟩
end ABZ
