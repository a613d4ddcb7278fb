section ABX
/-! forms that the printed functions are made of, and how a walk takes them apart -/
def ab_let {α β : Type} (a : α) (f : α → β) : β := f a
theorem ab_let_e {α β : Type} {a : α} {f : α → Option β} {r : β} (h : ab_let a f = some r) : f a = some r := h
theorem ab_let_x {α β : Type} {a : α} {f : α → Option β} {r : β} (h : ab_let a f = some r) : ∃ v, v = a ∧ f v = some r := ⟨a, rfl, h⟩
theorem ab_cI (x : Int32) : (Value.int x).category = 1 := rfl
theorem ab_cJ (x : Int64) : (Value.long x).category = 2 := rfl
theorem ab_bind {α β : Type} {o : Option α} {f : α → Option β} {r : β} (h : o.bind f = some r) : ∃ a, o = some a ∧ f a = some r := Option.bind_eq_some_iff.mp h
theorem ab_guard {β : Type} {c : Prop} [Decidable c] {x : Option β} {r : β} (h : (if c then x else none) = some r) : c ∧ x = some r := by
  split at h
  · exact ⟨‹c›, h⟩
  · cases h
theorem ab_guardN {β : Type} {c : Prop} [Decidable c] {x : Option β} {r : β} (h : (if c then none else x) = some r) : ¬ c ∧ x = some r := by
  split at h
  · cases h
  · exact ⟨‹¬ c›, h⟩
/-- a place within a row of n -/
def ab_in (i : Int32) (n : Nat) : Bool := !(decide (i < 0)) && decide (i.toNatClampNeg < n)
theorem ab_in_vp {i : Int32} {n : Nat} (h : ab_in i n = true) : vp_in i n := by
  simp only [ab_in, Bool.and_eq_true, Bool.not_eq_true', decide_eq_false_iff_not, decide_eq_true_eq] at h
  intro q
  rcases q with q | q
  · exact h.1 q
  · omega
/-- what System.arraycopy asks -/
def ab_cpok (i j n : Int32) (a b : Nat) : Bool := !(decide (i < 0)) && !(decide (j < 0)) && !(decide (n < 0)) && decide (i.toNatClampNeg + n.toNatClampNeg ≤ a) && decide (j.toNatClampNeg + n.toNatClampNeg ≤ b)
theorem ab_cpok_e {i j n : Int32} {a b : Nat} (h : ab_cpok i j n a b = true) : ¬ i < 0 ∧ ¬ j < 0 ∧ ¬ n < 0 ∧ i.toNatClampNeg + n.toNatClampNeg ≤ a ∧ j.toNatClampNeg + n.toNatClampNeg ≤ b := by
  simp only [ab_cpok, Bool.and_eq_true, Bool.not_eq_true', decide_eq_false_iff_not, decide_eq_true_eq] at h
  exact ⟨h.1.1.1.1, h.1.1.1.2, h.1.1.2, h.1.2, h.2⟩
def ab_Pi (r : Int32) (h : ab_HP) : Option Value → ab_HP → Prop := fun v u => v = some (.int r) ∧ u = h
def ab_Pb (r : Int32) (h : ab_HP) : Option Value → ab_HP → Prop := fun v u => v = some (.int r) ∧ u = h ∧ (r = 0 ∨ r = 1)
def ab_Pl (r : Int64) (h : ab_HP) : Option Value → ab_HP → Prop := fun v u => v = some (.long r) ∧ u = h
def ab_Pr (t : Nat) (r : Option Nat) (h : ab_HP) : Option Value → ab_HP → Prop := fun v u => v = some (va_rf r) ∧ u = h ∧ ∀ z, r = some z → (ab_shp z).1 = t
def ab_Pv (h : ab_HP) : Option Value → ab_HP → Prop := fun v u => v = none ∧ u = h
section
variable {y : ab_M} {d mc ms c s pc pc2 : Nat} {lo : List (Option Value)} {st : List Value} {h : ab_HP} {P : Option Value → ab_HP → Prop}
theorem ab_topI {x v : Int32} (e : v = x) (k : ab_T y d mc ms c s pc lo (.int v :: st) h P) : ab_T y d mc ms c s pc lo (.int x :: st) h P := e ▸ k
theorem ab_topJ {x v : Int64} (e : v = x) (k : ab_T y d mc ms c s pc lo (.long v :: st) h P) : ab_T y d mc ms c s pc lo (.long x :: st) h P := e ▸ k
theorem ab_topR {x v : Option Nat} (e : v = x) (k : ab_T y d mc ms c s pc lo (va_rf v :: st) h P) : ab_T y d mc ms c s pc lo (va_rf x :: st) h P := e ▸ k
theorem ab_topH {u : ab_HP} (e : u = h) (k : ab_T y d mc ms c s pc lo st u P) : ab_T y d mc ms c s pc lo st h P := e ▸ k
theorem ab_kPi {w : Int32} {u0 : ab_HP} (k : ab_T y d mc ms c s pc lo (.int w :: st) u0 P) : ∀ v u, ab_Pi w u0 v u → ab_T y d mc ms c s pc lo (v.toList ++ st) u P := by
  rintro v u ⟨rfl, rfl⟩
  exact k
theorem ab_kPb {w : Int32} {u0 : ab_HP} (k : w = 0 ∨ w = 1 → ab_T y d mc ms c s pc lo (.int w :: st) u0 P) : ∀ v u, ab_Pb w u0 v u → ab_T y d mc ms c s pc lo (v.toList ++ st) u P := by
  rintro v u ⟨rfl, rfl, h⟩
  exact k h
theorem ab_kPl {w : Int64} {u0 : ab_HP} (k : ab_T y d mc ms c s pc lo (.long w :: st) u0 P) : ∀ v u, ab_Pl w u0 v u → ab_T y d mc ms c s pc lo (v.toList ++ st) u P := by
  rintro v u ⟨rfl, rfl⟩
  exact k
theorem ab_kPr {w : Option Nat} {u0 : ab_HP} {t : Nat} (k : (∀ z, w = some z → (ab_shp z).1 = t) → ab_T y d mc ms c s pc lo (va_rf w :: st) u0 P) : ∀ v u, ab_Pr t w u0 v u → ab_T y d mc ms c s pc lo (v.toList ++ st) u P := by
  rintro v u ⟨rfl, rfl, h⟩
  exact k h
theorem ab_kPv {u0 : ab_HP} (k : ab_T y d mc ms c s pc lo st u0 P) : ∀ v u, ab_Pv u0 v u → ab_T y d mc ms c s pc lo (v.toList ++ st) u P := by
  rintro v u ⟨rfl, rfl⟩
  exact k
theorem ab_st1_rf {lo2 : List (Option Value)} {j : Nat} {x : Option Nat} {v : Value} (h : lo[j]? = some (some (va_rf x))) (h2 : lo.set (j + 1) (some v) = lo2) : ab_st1 lo (j + 1) v = lo2 := by
  subst h2
  unfold ab_st1
  simp only [h, ab_rf1]
  rfl
theorem ab_nul {β : Type} {x : Option Nat} {X : Option β} {Y : Nat → Option β} {r : β} {off : Int} {tgt : Nat} (hd : decode y.2.1 pc = .ok (.ifnull off, 3)) (ht : (pc : Int) + off = (tgt : Int)) (hn : pc + 3 = pc2) (hf : x.elim X Y = some r) (k0 : x = none → X = some r → ab_T y d mc ms c s tgt lo st h P) (k1 : ∀ q, x = some q → Y q = some r → ab_T y d mc ms c s pc2 lo st h P) : ab_T y d mc ms c s pc lo (va_rf x :: st) h P :=
  ab_ifnull hd ht hn (fun e => k0 e (by rw [e] at hf; exact hf)) (fun q e => k1 q e (by rw [e] at hf; exact hf))
theorem ab_nnul {β : Type} {x : Option Nat} {X : Option β} {Y : Nat → Option β} {r : β} {off : Int} {tgt : Nat} (hd : decode y.2.1 pc = .ok (.ifnonnull off, 3)) (ht : (pc : Int) + off = (tgt : Int)) (hn : pc + 3 = pc2) (hf : x.elim X Y = some r) (k0 : x = none → X = some r → ab_T y d mc ms c s pc2 lo st h P) (k1 : ∀ q, x = some q → Y q = some r → ab_T y d mc ms c s tgt lo st h P) : ab_T y d mc ms c s pc lo (va_rf x :: st) h P :=
  ab_ifnonnull hd ht hn (fun e => k0 e (by rw [e] at hf; exact hf)) (fun q e => k1 q e (by rw [e] at hf; exact hf))
/-- a case of a switch -/
theorem ab_cas {β : Type} {x k : Int32} {X Y : Option β} {r : β} (hf : (if x = k then X else Y) = some r) : (x = k ∧ X = some r) ∨ (¬ x = k ∧ Y = some r) := by
  split at hf
  · exact Or.inl ⟨‹_›, hf⟩
  · exact Or.inr ⟨‹_›, hf⟩
theorem ab_tswK {dflt lw hi : Int} {offs : Array Int} {len : Nat} {x k : Int32} {off : Int} {tgt : Nat} (hd : decode y.2.1 pc = .ok (.tableswitch dflt lw hi offs, len)) (hk : x = k) (h1 : ¬ k.toInt < lw) (h2 : ¬ hi < k.toInt) (ho : offs[(k.toInt - lw).toNat]? = some off) (ht : (pc : Int) + off = (tgt : Int)) (kk : ab_T y d mc ms c s tgt lo st h P) : ab_T y d mc ms c s pc lo (.int x :: st) h P := by
  subst hk
  exact ab_tswIn hd h1 h2 ho ht kk
theorem ab_lswK {dflt : Int} {ps : Array (Int × Int)} {len : Nat} {x k : Int32} {off : Int} {tgt : Nat} (hd : decode y.2.1 pc = .ok (.lookupswitch dflt ps, len)) (hk : x = k) (hp : (ps.toList.zip (ps.toList.drop 1)).all (fun (a, next) => a.1 < next.1) = true) (ho : Op.lookupswitch.offset ps.toList dflt k.toInt = off) (ht : (pc : Int) + off = (tgt : Int)) (kk : ab_T y d mc ms c s tgt lo st h P) : ab_T y d mc ms c s pc lo (.int x :: st) h P := by
  subst hk
  exact ab_lsw hd hp ho ht kk
theorem ab_tswD {dflt lw hi : Int} {offs : Array Int} {len : Nat} {x : Int32} {tgt : Nat} (hd : decode y.2.1 pc = .ok (.tableswitch dflt lw hi offs, len)) (hz : hi - lw + 1 = (offs.size : Int)) (h1 : ∀ j : Nat, j < offs.size → x.toInt = lw + (j : Int) → offs[j]? = some dflt) (ht : (pc : Int) + dflt = (tgt : Int)) (kk : ab_T y d mc ms c s tgt lo st h P) : ab_T y d mc ms c s pc lo (.int x :: st) h P := by
  by_cases hin : x.toInt < lw ∨ hi < x.toInt
  · exact ab_tswOut hd hin ht kk
  · have e1 : x.toInt = lw + (((x.toInt - lw).toNat : Nat) : Int) := by omega
    exact ab_tswIn hd (by omega) (by omega) (h1 _ (by omega) e1) ht kk
theorem ab_neI {x k : Int32} (h : ¬ x = k) : x.toInt ≠ k.toInt := fun q => h (Int32.toInt_inj.mp q)
end
end ABX
