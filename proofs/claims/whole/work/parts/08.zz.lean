section ABZ
/-- what a throw rests on: two static fields of Throwable, their cells apart from A; and what the tables say of strings and classes -/
def ab_ZV (U : State) : Prop := va_Nw (.castable "java/lang/IllegalStateException" "java/lang/IllegalStateException") U ∧ va_Nw (.castable "java/lang/IllegalArgumentException" "java/lang/IllegalArgumentException") U ∧ va_Nc "java/lang/IllegalStateException" "java/lang/IllegalArgumentException" U ∧
  (∃ a, vk_R RX1 58 "a deed fails" a U) ∧ (∃ a, vk_R RX11 256 "no such shelf" a U) ∧ (∃ a, vk_R RX11 266 "no row, or no such place" a U)
def ab_ZZ (A : Nat → Prop) (U : State) : Prop := vx_Zq Bundle.tN "UNASSIGNED_STACK" Bundle.steD A U U.heap ∧ vx_Zq Bundle.tN "SUPPRESSED_SENTINEL" Bundle.listD A U U.heap ∧ ab_ZV U
theorem ab_ZV.warm {s U : State} (hW : s.WarmedH U.vm) (h : ab_ZV s) : ab_ZV U := by
  obtain ⟨h1, h2, h3, ⟨a4, h4⟩, ⟨a5, h5⟩, ⟨a6, h6⟩⟩ := h
  exact ⟨va_Nw.warmC hW h1, va_Nw.warmC hW h2, va_Nc.moved hW.alike h3, ⟨a4, vk_R.warm hW h4⟩, ⟨a5, vk_R.warm hW h5⟩, ⟨a6, vk_R.warm hW h6⟩⟩
theorem ab_ZV.vm {s U : State} (hW : s.vm = U.vm) (h : ab_ZV s) : ab_ZV U := by
  obtain ⟨h1, h2, h3, ⟨a4, h4⟩, ⟨a5, h5⟩, ⟨a6, h6⟩⟩ := h
  exact ⟨va_Nw.same rfl hW h1, va_Nw.same rfl hW h2, va_Nc.moved (hW ▸ Vm.Alike.refl s.vm) h3, ⟨a4, vk_R.same hW.symm h4⟩, ⟨a5, vk_R.same hW.symm h5⟩, ⟨a6, vk_R.same hW.symm h6⟩⟩
theorem ab_ZZ.to {A A2 : Nat → Prop} {s U : State} {H : Heap} {locs : List Loc} (h : ab_ZZ A s) (hW : s.WarmedH U.vm) (hH : U.heap = H) (hS : va_S A s.heap H locs) (hA : ∀ q, A2 q → A q) : ab_ZZ A2 U := by
  subst hH
  obtain ⟨h1, h2, h3⟩ := h
  exact ⟨((vx_Zq.moved hW.alike h1).kept hS.2.1).narrow hA, ((vx_Zq.moved hW.alike h2).kept hS.2.1).narrow hA, h3.warm hW⟩
theorem ab_ZZ.vm {A : Nat → Prop} {s U : State} (hW : s.vm = U.vm) (hH : s.heap = U.heap) (h : ab_ZZ A s) : ab_ZZ A U := by
  obtain ⟨h1, h2, h3⟩ := h
  have hA : s.vm.Alike U.vm := hW ▸ Vm.Alike.refl s.vm
  rw [hH] at h1 h2
  exact ⟨vx_Zq.moved hA h1, vx_Zq.moved hA h2, h3.vm hW⟩
end ABZ
