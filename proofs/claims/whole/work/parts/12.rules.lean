section ABR
variable {y : ab_M} {d mc ms c s pc pc2 : Nat} {lo : List (Option Value)} {st : List Value} {h : ab_HP} {P : Option Value → ab_HP → Prop}
theorem ab_iconst {n : Int} {v : Int32} (hd : decode y.2.1 pc = .ok (.iconst n, 1)) (hn : pc + 1 = pc2) (hv : Int32.ofInt n = v) (k : ab_T y d mc ms c s pc2 lo (.int v :: st) h P) : ab_T y d mc ms c s pc lo st h P := by
  intro p l e R σ m args below meth cd D A Q C ws H locs ls cst hR hP hD hS hL hT hK
  subst hn
  exact lv_iconst C.1 C.2.1 hd hv (k p l e R σ m args below meth cd D A Q C ws H locs ls _ hR hP hD hS hL ⟨_, _, rfl, rfl, hT⟩ hK)
theorem ab_bipush {n : Int} {v : Int32} (hd : decode y.2.1 pc = .ok (.bipush n, 2)) (hn : pc + 2 = pc2) (hv : (Int8.ofInt n).toInt32 = v) (k : ab_T y d mc ms c s pc2 lo (.int v :: st) h P) : ab_T y d mc ms c s pc lo st h P := by
  intro p l e R σ m args below meth cd D A Q C ws H locs ls cst hR hP hD hS hL hT hK
  subst hn
  exact lv_bipush C.1 C.2.1 hd hv (k p l e R σ m args below meth cd D A Q C ws H locs ls _ hR hP hD hS hL ⟨_, _, rfl, rfl, hT⟩ hK)
theorem ab_sipush {n : Int} {v : Int32} (hd : decode y.2.1 pc = .ok (.sipush n, 3)) (hn : pc + 3 = pc2) (hv : (Int16.ofInt n).toInt32 = v) (k : ab_T y d mc ms c s pc2 lo (.int v :: st) h P) : ab_T y d mc ms c s pc lo st h P := by
  intro p l e R σ m args below meth cd D A Q C ws H locs ls cst hR hP hD hS hL hT hK
  subst hn
  exact lv_sipush C.1 C.2.1 hd hv (k p l e R σ m args below meth cd D A Q C ws H locs ls _ hR hP hD hS hL ⟨_, _, rfl, rfl, hT⟩ hK)
theorem ab_lconst {n : Fin 2} {v : Int64} (hd : decode y.2.1 pc = .ok (.lconst n, 1)) (hn : pc + 1 = pc2) (hv : Int64.ofNat (n : Nat) = v) (k : ab_T y d mc ms c s pc2 lo (.long v :: st) h P) : ab_T y d mc ms c s pc lo st h P := by
  intro p l e R σ m args below meth cd D A Q C ws H locs ls cst hR hP hD hS hL hT hK
  subst hn
  exact lv_lconst C.1 C.2.1 hd hv (k p l e R σ m args below meth cd D A Q C ws H locs ls _ hR hP hD hS hL ⟨_, _, rfl, rfl, hT⟩ hK)
theorem ab_ldc {i : Nat} {v : Int32} (hd : decode y.2.1 pc = .ok (.ldc i, 2)) (hn : pc + 2 = pc2) (hw : Cond.constant y.1.cls i v ∈ ab_TS) (k : ab_T y d mc ms c s pc2 lo (.int v :: st) h P) : ab_T y d mc ms c s pc lo st h P := by
  intro p l e R σ m args below meth cd D A Q C ws H locs ls cst hR hP hD hS hL hT hK
  subst hn
  exact lv_ldc C.1 C.2.1 C.2.2.2.1 (C.2.2.2.2.1 _ hw) hd (k p l e R σ m args below meth cd D A Q C ws H locs ls _ hR hP hD hS hL ⟨_, _, rfl, rfl, hT⟩ hK)
theorem ab_ldcw {i : Nat} {v : Int32} (hd : decode y.2.1 pc = .ok (.ldc_w i, 3)) (hn : pc + 3 = pc2) (hw : Cond.constant y.1.cls i v ∈ ab_TS) (k : ab_T y d mc ms c s pc2 lo (.int v :: st) h P) : ab_T y d mc ms c s pc lo st h P := by
  intro p l e R σ m args below meth cd D A Q C ws H locs ls cst hR hP hD hS hL hT hK
  subst hn
  exact lv_ldcw C.1 C.2.1 C.2.2.2.1 (C.2.2.2.2.1 _ hw) hd (k p l e R σ m args below meth cd D A Q C ws H locs ls _ hR hP hD hS hL ⟨_, _, rfl, rfl, hT⟩ hK)
theorem ab_ldc2 {i : Nat} {v : Int64} (hd : decode y.2.1 pc = .ok (.ldc2_w i, 3)) (hn : pc + 3 = pc2) (hw : Cond.constantLong y.1.cls i v ∈ ab_TS) (k : ab_T y d mc ms c s pc2 lo (.long v :: st) h P) : ab_T y d mc ms c s pc lo st h P := by
  intro p l e R σ m args below meth cd D A Q C ws H locs ls cst hR hP hD hS hL hT hK
  subst hn
  exact lv_ldc2 C.1 C.2.1 C.2.2.2.1 (C.2.2.2.2.1 _ hw) hd (k p l e R σ m args below meth cd D A Q C ws H locs ls _ hR hP hD hS hL ⟨_, _, rfl, rfl, hT⟩ hK)
theorem ab_null (hd : decode y.2.1 pc = .ok (.aconst_null, 1)) (hn : pc + 1 = pc2) (k : ab_T y d mc ms c s pc2 lo (va_rf none :: st) h P) : ab_T y d mc ms c s pc lo st h P := by
  intro p l e R σ m args below meth cd D A Q C ws H locs ls cst hR hP hD hS hL hT hK
  subst hn
  exact lv_null C.1 C.2.1 hd (k p l e R σ m args below meth cd D A Q C ws H locs ls _ hR hP hD hS hL ⟨_, _, rfl, rfl, hT⟩ hK)
theorem ab_iload_n {j : Fin 4} {x : Int32} (hd : decode y.2.1 pc = .ok (.iload_n j, 1)) (hn : pc + 1 = pc2) (hl : lo[(j : Nat)]? = some (some (.int x))) (k : ab_T y d mc ms c s pc2 lo (.int x :: st) h P) : ab_T y d mc ms c s pc lo st h P := by
  intro p l e R σ m args below meth cd D A Q C ws H locs ls cst hR hP hD hS hL hT hK
  subst hn
  obtain ⟨cv, g1, g2⟩ := hL.2.2 _ _ hl
  have g2 : cv = .int x := g2
  subst g2
  exact lv_iload_n C.1 C.2.1 hd rfl g1 (k p l e R σ m args below meth cd D A Q C ws H locs ls _ hR hP hD hS hL ⟨_, _, rfl, rfl, hT⟩ hK)
theorem ab_iload {j : Nat} {x : Int32} (hd : decode y.2.1 pc = .ok (.iload j, 2)) (hn : pc + 2 = pc2) (hl : lo[j]? = some (some (.int x))) (k : ab_T y d mc ms c s pc2 lo (.int x :: st) h P) : ab_T y d mc ms c s pc lo st h P := by
  intro p l e R σ m args below meth cd D A Q C ws H locs ls cst hR hP hD hS hL hT hK
  subst hn
  obtain ⟨cv, g1, g2⟩ := hL.2.2 _ _ hl
  have g2 : cv = .int x := g2
  subst g2
  exact lv_iload C.1 C.2.1 hd g1 (k p l e R σ m args below meth cd D A Q C ws H locs ls _ hR hP hD hS hL ⟨_, _, rfl, rfl, hT⟩ hK)
theorem ab_lload_n {j : Fin 4} {x : Int64} (hd : decode y.2.1 pc = .ok (.lload_n j, 1)) (hn : pc + 1 = pc2) (hl : lo[(j : Nat)]? = some (some (.long x))) (k : ab_T y d mc ms c s pc2 lo (.long x :: st) h P) : ab_T y d mc ms c s pc lo st h P := by
  intro p l e R σ m args below meth cd D A Q C ws H locs ls cst hR hP hD hS hL hT hK
  subst hn
  obtain ⟨cv, g1, g2⟩ := hL.2.2 _ _ hl
  have g2 : cv = .long x := g2
  subst g2
  exact lv_lload_n C.1 C.2.1 hd rfl g1 (k p l e R σ m args below meth cd D A Q C ws H locs ls _ hR hP hD hS hL ⟨_, _, rfl, rfl, hT⟩ hK)
theorem ab_lload {j : Nat} {x : Int64} (hd : decode y.2.1 pc = .ok (.lload j, 2)) (hn : pc + 2 = pc2) (hl : lo[j]? = some (some (.long x))) (k : ab_T y d mc ms c s pc2 lo (.long x :: st) h P) : ab_T y d mc ms c s pc lo st h P := by
  intro p l e R σ m args below meth cd D A Q C ws H locs ls cst hR hP hD hS hL hT hK
  subst hn
  obtain ⟨cv, g1, g2⟩ := hL.2.2 _ _ hl
  have g2 : cv = .long x := g2
  subst g2
  exact lv_lload C.1 C.2.1 hd g1 (k p l e R σ m args below meth cd D A Q C ws H locs ls _ hR hP hD hS hL ⟨_, _, rfl, rfl, hT⟩ hK)
theorem ab_aload_n {j : Fin 4} {x : Option Nat} (hd : decode y.2.1 pc = .ok (.aload_n j, 1)) (hn : pc + 1 = pc2) (hl : lo[(j : Nat)]? = some (some (va_rf x))) (k : ab_T y d mc ms c s pc2 lo (va_rf x :: st) h P) : ab_T y d mc ms c s pc lo st h P := by
  intro p l e R σ m args below meth cd D A Q C ws H locs ls cst hR hP hD hS hL hT hK
  subst hn
  obtain ⟨cv, g1, g2⟩ := hL.2.2 _ _ hl
  have hk := fun (hT2 : ab_S D.2.2.1 ws (va_rf x :: st) (cv :: cst)) => k p l e R σ m args below meth cd D A Q C ws H locs ls (cv :: cst) hR hP hD hS hL hT2 hK
  cases x with
  | none =>
    have g3 : cv = .null := g2
    subst g3
    exact lv_aload_nN C.1 C.2.1 hd rfl g1 (hk ⟨_, _, rfl, g2, hT⟩)
  | some q =>
    have g3 := g2
    obtain ⟨a, x0, -, g4⟩ := g3
    subst g4
    exact lv_aload_n C.1 C.2.1 hd rfl g1 (hk ⟨_, _, rfl, g2, hT⟩)
theorem ab_aload_nS {j : Fin 4} {x : UInt32} (hd : decode y.2.1 pc = .ok (.aload_n j, 1)) (hn : pc + 1 = pc2) (hl : lo[(j : Nat)]? = some (some (.float x))) (k : ab_T y d mc ms c s pc2 lo (.float x :: st) h P) : ab_T y d mc ms c s pc lo st h P := by
  intro p l e R σ m args below meth cd D A Q C ws H locs ls cst hR hP hD hS hL hT hK
  subst hn
  obtain ⟨cv, g1, g2⟩ := hL.2.2 _ _ hl
  have g2 : cv = .ref D.2.2.1 := g2
  subst g2
  exact lv_aload_n C.1 C.2.1 hd rfl g1 (k p l e R σ m args below meth cd D A Q C ws H locs ls _ hR hP hD hS hL ⟨_, _, rfl, rfl, hT⟩ hK)
theorem ab_aload {j : Nat} {x : Option Nat} (hd : decode y.2.1 pc = .ok (.aload j, 2)) (hn : pc + 2 = pc2) (hl : lo[j]? = some (some (va_rf x))) (k : ab_T y d mc ms c s pc2 lo (va_rf x :: st) h P) : ab_T y d mc ms c s pc lo st h P := by
  intro p l e R σ m args below meth cd D A Q C ws H locs ls cst hR hP hD hS hL hT hK
  subst hn
  obtain ⟨cv, g1, g2⟩ := hL.2.2 _ _ hl
  have hk := fun (hT2 : ab_S D.2.2.1 ws (va_rf x :: st) (cv :: cst)) => k p l e R σ m args below meth cd D A Q C ws H locs ls (cv :: cst) hR hP hD hS hL hT2 hK
  cases x with
  | none =>
    have g3 : cv = .null := g2
    subst g3
    exact lv_aloadN C.1 C.2.1 hd g1 (hk ⟨_, _, rfl, g2, hT⟩)
  | some q =>
    have g3 := g2
    obtain ⟨a, x0, -, g4⟩ := g3
    subst g4
    exact lv_aload C.1 C.2.1 hd g1 (hk ⟨_, _, rfl, g2, hT⟩)
theorem ab_aloadS {j : Nat} {x : UInt32} (hd : decode y.2.1 pc = .ok (.aload j, 2)) (hn : pc + 2 = pc2) (hl : lo[j]? = some (some (.float x))) (k : ab_T y d mc ms c s pc2 lo (.float x :: st) h P) : ab_T y d mc ms c s pc lo st h P := by
  intro p l e R σ m args below meth cd D A Q C ws H locs ls cst hR hP hD hS hL hT hK
  subst hn
  obtain ⟨cv, g1, g2⟩ := hL.2.2 _ _ hl
  have g2 : cv = .ref D.2.2.1 := g2
  subst g2
  exact lv_aload C.1 C.2.1 hd g1 (k p l e R σ m args below meth cd D A Q C ws H locs ls _ hR hP hD hS hL ⟨_, _, rfl, rfl, hT⟩ hK)
theorem ab_iadd {x : Int32} {z : Int32} (hd : decode y.2.1 pc = .ok (.iadd, 1)) (hn : pc + 1 = pc2) (k : ab_T y d mc ms c s pc2 lo (.int (x + z) :: st) h P) : ab_T y d mc ms c s pc lo (.int z :: .int x :: st) h P := by
  intro p l e R σ m args below meth cd D A Q C ws H locs ls cst hR hP hD hS hL hT hK
  subst hn
  obtain ⟨c1, s1, rfl, g1, c2, s2, rfl, g2, hT⟩ := hT
  have g1 : c1 = .int z := g1
  have g2 : c2 = .int x := g2
  subst g1 g2
  exact lv_iadd C.1 C.2.1 hd (k p l e R σ m args below meth cd D A Q C ws H locs ls _ hR hP hD hS hL ⟨_, _, rfl, rfl, hT⟩ hK)
theorem ab_isub {x : Int32} {z : Int32} (hd : decode y.2.1 pc = .ok (.isub, 1)) (hn : pc + 1 = pc2) (k : ab_T y d mc ms c s pc2 lo (.int (x - z) :: st) h P) : ab_T y d mc ms c s pc lo (.int z :: .int x :: st) h P := by
  intro p l e R σ m args below meth cd D A Q C ws H locs ls cst hR hP hD hS hL hT hK
  subst hn
  obtain ⟨c1, s1, rfl, g1, c2, s2, rfl, g2, hT⟩ := hT
  have g1 : c1 = .int z := g1
  have g2 : c2 = .int x := g2
  subst g1 g2
  exact lv_isub C.1 C.2.1 hd (k p l e R σ m args below meth cd D A Q C ws H locs ls _ hR hP hD hS hL ⟨_, _, rfl, rfl, hT⟩ hK)
theorem ab_imul {x : Int32} {z : Int32} (hd : decode y.2.1 pc = .ok (.imul, 1)) (hn : pc + 1 = pc2) (k : ab_T y d mc ms c s pc2 lo (.int (x * z) :: st) h P) : ab_T y d mc ms c s pc lo (.int z :: .int x :: st) h P := by
  intro p l e R σ m args below meth cd D A Q C ws H locs ls cst hR hP hD hS hL hT hK
  subst hn
  obtain ⟨c1, s1, rfl, g1, c2, s2, rfl, g2, hT⟩ := hT
  have g1 : c1 = .int z := g1
  have g2 : c2 = .int x := g2
  subst g1 g2
  exact lv_imul C.1 C.2.1 hd (k p l e R σ m args below meth cd D A Q C ws H locs ls _ hR hP hD hS hL ⟨_, _, rfl, rfl, hT⟩ hK)
theorem ab_iand {x : Int32} {z : Int32} (hd : decode y.2.1 pc = .ok (.iand, 1)) (hn : pc + 1 = pc2) (k : ab_T y d mc ms c s pc2 lo (.int (x &&& z) :: st) h P) : ab_T y d mc ms c s pc lo (.int z :: .int x :: st) h P := by
  intro p l e R σ m args below meth cd D A Q C ws H locs ls cst hR hP hD hS hL hT hK
  subst hn
  obtain ⟨c1, s1, rfl, g1, c2, s2, rfl, g2, hT⟩ := hT
  have g1 : c1 = .int z := g1
  have g2 : c2 = .int x := g2
  subst g1 g2
  exact lv_iand C.1 C.2.1 hd (k p l e R σ m args below meth cd D A Q C ws H locs ls _ hR hP hD hS hL ⟨_, _, rfl, rfl, hT⟩ hK)
theorem ab_ior {x : Int32} {z : Int32} (hd : decode y.2.1 pc = .ok (.ior, 1)) (hn : pc + 1 = pc2) (k : ab_T y d mc ms c s pc2 lo (.int (x ||| z) :: st) h P) : ab_T y d mc ms c s pc lo (.int z :: .int x :: st) h P := by
  intro p l e R σ m args below meth cd D A Q C ws H locs ls cst hR hP hD hS hL hT hK
  subst hn
  obtain ⟨c1, s1, rfl, g1, c2, s2, rfl, g2, hT⟩ := hT
  have g1 : c1 = .int z := g1
  have g2 : c2 = .int x := g2
  subst g1 g2
  exact lv_ior C.1 C.2.1 hd (k p l e R σ m args below meth cd D A Q C ws H locs ls _ hR hP hD hS hL ⟨_, _, rfl, rfl, hT⟩ hK)
theorem ab_ixor {x : Int32} {z : Int32} (hd : decode y.2.1 pc = .ok (.ixor, 1)) (hn : pc + 1 = pc2) (k : ab_T y d mc ms c s pc2 lo (.int (x ^^^ z) :: st) h P) : ab_T y d mc ms c s pc lo (.int z :: .int x :: st) h P := by
  intro p l e R σ m args below meth cd D A Q C ws H locs ls cst hR hP hD hS hL hT hK
  subst hn
  obtain ⟨c1, s1, rfl, g1, c2, s2, rfl, g2, hT⟩ := hT
  have g1 : c1 = .int z := g1
  have g2 : c2 = .int x := g2
  subst g1 g2
  exact lv_ixor C.1 C.2.1 hd (k p l e R σ m args below meth cd D A Q C ws H locs ls _ hR hP hD hS hL ⟨_, _, rfl, rfl, hT⟩ hK)
theorem ab_ishl {x : Int32} {z : Int32} (hd : decode y.2.1 pc = .ok (.ishl, 1)) (hn : pc + 1 = pc2) (k : ab_T y d mc ms c s pc2 lo (.int (x <<< (z &&& 31)) :: st) h P) : ab_T y d mc ms c s pc lo (.int z :: .int x :: st) h P := by
  intro p l e R σ m args below meth cd D A Q C ws H locs ls cst hR hP hD hS hL hT hK
  subst hn
  obtain ⟨c1, s1, rfl, g1, c2, s2, rfl, g2, hT⟩ := hT
  have g1 : c1 = .int z := g1
  have g2 : c2 = .int x := g2
  subst g1 g2
  exact lv_ishl C.1 C.2.1 hd (k p l e R σ m args below meth cd D A Q C ws H locs ls _ hR hP hD hS hL ⟨_, _, rfl, rfl, hT⟩ hK)
theorem ab_ishr {x : Int32} {z : Int32} (hd : decode y.2.1 pc = .ok (.ishr, 1)) (hn : pc + 1 = pc2) (k : ab_T y d mc ms c s pc2 lo (.int (x >>> (z &&& 31)) :: st) h P) : ab_T y d mc ms c s pc lo (.int z :: .int x :: st) h P := by
  intro p l e R σ m args below meth cd D A Q C ws H locs ls cst hR hP hD hS hL hT hK
  subst hn
  obtain ⟨c1, s1, rfl, g1, c2, s2, rfl, g2, hT⟩ := hT
  have g1 : c1 = .int z := g1
  have g2 : c2 = .int x := g2
  subst g1 g2
  exact lv_ishr C.1 C.2.1 hd (k p l e R σ m args below meth cd D A Q C ws H locs ls _ hR hP hD hS hL ⟨_, _, rfl, rfl, hT⟩ hK)
theorem ab_idiv {x : Int32} {z : Int32} (hd : decode y.2.1 pc = .ok (.idiv, 1)) (hn : pc + 1 = pc2) (hz : ¬ z = 0) (k : ab_T y d mc ms c s pc2 lo (.int (x / z) :: st) h P) : ab_T y d mc ms c s pc lo (.int z :: .int x :: st) h P := by
  intro p l e R σ m args below meth cd D A Q C ws H locs ls cst hR hP hD hS hL hT hK
  subst hn
  obtain ⟨c1, s1, rfl, g1, c2, s2, rfl, g2, hT⟩ := hT
  have g1 : c1 = .int z := g1
  have g2 : c2 = .int x := g2
  subst g1 g2
  exact lv_idiv C.1 C.2.1 hd hz (k p l e R σ m args below meth cd D A Q C ws H locs ls _ hR hP hD hS hL ⟨_, _, rfl, rfl, hT⟩ hK)
theorem ab_irem {x : Int32} {z : Int32} (hd : decode y.2.1 pc = .ok (.irem, 1)) (hn : pc + 1 = pc2) (hz : ¬ z = 0) (k : ab_T y d mc ms c s pc2 lo (.int (x - x / z * z) :: st) h P) : ab_T y d mc ms c s pc lo (.int z :: .int x :: st) h P := by
  intro p l e R σ m args below meth cd D A Q C ws H locs ls cst hR hP hD hS hL hT hK
  subst hn
  obtain ⟨c1, s1, rfl, g1, c2, s2, rfl, g2, hT⟩ := hT
  have g1 : c1 = .int z := g1
  have g2 : c2 = .int x := g2
  subst g1 g2
  exact lv_irem C.1 C.2.1 hd hz (k p l e R σ m args below meth cd D A Q C ws H locs ls _ hR hP hD hS hL ⟨_, _, rfl, rfl, hT⟩ hK)
theorem ab_iushr {x : Int32} {z : Int32} (hd : decode y.2.1 pc = .ok (.iushr, 1)) (hn : pc + 1 = pc2) (k : ab_T y d mc ms c s pc2 lo (.int ((x.toUInt32 >>> (z.toUInt32 &&& Int32.toUInt32 31)).toInt32) :: st) h P) : ab_T y d mc ms c s pc lo (.int z :: .int x :: st) h P := by
  intro p l e R σ m args below meth cd D A Q C ws H locs ls cst hR hP hD hS hL hT hK
  subst hn
  obtain ⟨c1, s1, rfl, g1, c2, s2, rfl, g2, hT⟩ := hT
  have g1 : c1 = .int z := g1
  have g2 : c2 = .int x := g2
  subst g1 g2
  exact lv_iushr C.1 C.2.1 hd rfl (k p l e R σ m args below meth cd D A Q C ws H locs ls _ hR hP hD hS hL ⟨_, _, rfl, rfl, hT⟩ hK)
theorem ab_ladd {x : Int64} {z : Int64} (hd : decode y.2.1 pc = .ok (.ladd, 1)) (hn : pc + 1 = pc2) (k : ab_T y d mc ms c s pc2 lo (.long (x + z) :: st) h P) : ab_T y d mc ms c s pc lo (.long z :: .long x :: st) h P := by
  intro p l e R σ m args below meth cd D A Q C ws H locs ls cst hR hP hD hS hL hT hK
  subst hn
  obtain ⟨c1, s1, rfl, g1, c2, s2, rfl, g2, hT⟩ := hT
  have g1 : c1 = .long z := g1
  have g2 : c2 = .long x := g2
  subst g1 g2
  exact lv_ladd C.1 C.2.1 hd (k p l e R σ m args below meth cd D A Q C ws H locs ls _ hR hP hD hS hL ⟨_, _, rfl, rfl, hT⟩ hK)
theorem ab_lcmp {x : Int64} {z : Int64} (hd : decode y.2.1 pc = .ok (.lcmp, 1)) (hn : pc + 1 = pc2) (k : ab_T y d mc ms c s pc2 lo (.int (lg_cmp x z) :: st) h P) : ab_T y d mc ms c s pc lo (.long z :: .long x :: st) h P := by
  intro p l e R σ m args below meth cd D A Q C ws H locs ls cst hR hP hD hS hL hT hK
  subst hn
  obtain ⟨c1, s1, rfl, g1, c2, s2, rfl, g2, hT⟩ := hT
  have g1 : c1 = .long z := g1
  have g2 : c2 = .long x := g2
  subst g1 g2
  exact W.lcmp C.1 C.2.1 hd (k p l e R σ m args below meth cd D A Q C ws H locs ls _ hR hP hD hS hL ⟨_, _, rfl, rfl, hT⟩ hK)
theorem ab_ineg {x : Int32} (hd : decode y.2.1 pc = .ok (.ineg, 1)) (hn : pc + 1 = pc2) (k : ab_T y d mc ms c s pc2 lo (.int (-x) :: st) h P) : ab_T y d mc ms c s pc lo (.int x :: st) h P := by
  intro p l e R σ m args below meth cd D A Q C ws H locs ls cst hR hP hD hS hL hT hK
  subst hn
  obtain ⟨c1, s1, rfl, g1, hT⟩ := hT
  have g1 : c1 = .int x := g1
  subst g1
  exact lv_ineg C.1 C.2.1 hd (k p l e R σ m args below meth cd D A Q C ws H locs ls _ hR hP hD hS hL ⟨_, _, rfl, rfl, hT⟩ hK)
theorem ab_i2l {x : Int32} (hd : decode y.2.1 pc = .ok (.i2l, 1)) (hn : pc + 1 = pc2) (k : ab_T y d mc ms c s pc2 lo (.long (x.toInt64) :: st) h P) : ab_T y d mc ms c s pc lo (.int x :: st) h P := by
  intro p l e R σ m args below meth cd D A Q C ws H locs ls cst hR hP hD hS hL hT hK
  subst hn
  obtain ⟨c1, s1, rfl, g1, hT⟩ := hT
  have g1 : c1 = .int x := g1
  subst g1
  exact lv_i2l C.1 C.2.1 hd rfl (k p l e R σ m args below meth cd D A Q C ws H locs ls _ hR hP hD hS hL ⟨_, _, rfl, rfl, hT⟩ hK)
theorem ab_l2i {x : Int64} (hd : decode y.2.1 pc = .ok (.l2i, 1)) (hn : pc + 1 = pc2) (k : ab_T y d mc ms c s pc2 lo (.int (x.toInt32) :: st) h P) : ab_T y d mc ms c s pc lo (.long x :: st) h P := by
  intro p l e R σ m args below meth cd D A Q C ws H locs ls cst hR hP hD hS hL hT hK
  subst hn
  obtain ⟨c1, s1, rfl, g1, hT⟩ := hT
  have g1 : c1 = .long x := g1
  subst g1
  exact lv_l2i C.1 C.2.1 hd rfl (k p l e R σ m args below meth cd D A Q C ws H locs ls _ hR hP hD hS hL ⟨_, _, rfl, rfl, hT⟩ hK)
theorem ab_i2b {x : Int32} (hd : decode y.2.1 pc = .ok (.i2b, 1)) (hn : pc + 1 = pc2) (k : ab_T y d mc ms c s pc2 lo (.int (x.toInt8.toInt32) :: st) h P) : ab_T y d mc ms c s pc lo (.int x :: st) h P := by
  intro p l e R σ m args below meth cd D A Q C ws H locs ls cst hR hP hD hS hL hT hK
  subst hn
  obtain ⟨c1, s1, rfl, g1, hT⟩ := hT
  have g1 : c1 = .int x := g1
  subst g1
  exact lv_i2b C.1 C.2.1 hd rfl (k p l e R σ m args below meth cd D A Q C ws H locs ls _ hR hP hD hS hL ⟨_, _, rfl, rfl, hT⟩ hK)
theorem ab_i2s {x : Int32} (hd : decode y.2.1 pc = .ok (.i2s, 1)) (hn : pc + 1 = pc2) (k : ab_T y d mc ms c s pc2 lo (.int (x.toInt16.toInt32) :: st) h P) : ab_T y d mc ms c s pc lo (.int x :: st) h P := by
  intro p l e R σ m args below meth cd D A Q C ws H locs ls cst hR hP hD hS hL hT hK
  subst hn
  obtain ⟨c1, s1, rfl, g1, hT⟩ := hT
  have g1 : c1 = .int x := g1
  subst g1
  exact lv_i2s C.1 C.2.1 hd rfl (k p l e R σ m args below meth cd D A Q C ws H locs ls _ hR hP hD hS hL ⟨_, _, rfl, rfl, hT⟩ hK)
theorem ab_c1 {b : Nat} {ws : va_W} {v cv : Value} (hv : ab_V b ws v cv) (h : v.category = 1) : cv.category = 1 := by
  cases v with
  | ref q => obtain ⟨a, x0, -, rfl⟩ := hv; rfl
  | float z => have hv : cv = .ref b := hv; subst hv; rfl
  | int z => have hv : cv = .int z := hv; subst hv; rfl
  | long z => exact absurd h (by simp [Value.category])
  | double z => exact absurd h (by simp [Value.category])
  | null => have hv : cv = .null := hv; subst hv; rfl
  | retAddr z => have hv : cv = .retAddr z := hv; subst hv; rfl
theorem ab_rf1 (x : Option Nat) : (va_rf x).category = 1 := by cases x <;> rfl
theorem ab_dup {v : Value} (hd : decode y.2.1 pc = .ok (.dup, 1)) (hn : pc + 1 = pc2) (hv : v.category = 1) (k : ab_T y d mc ms c s pc2 lo (v :: v :: st) h P) : ab_T y d mc ms c s pc lo (v :: st) h P := by
  intro p l e R σ m args below meth cd D A Q C ws H locs ls cst hR hP hD hS hL hT hK
  subst hn
  obtain ⟨c1, s1, rfl, g1, hT⟩ := hT
  exact lv_dup C.1 C.2.1 hd (ab_c1 g1 hv) (k p l e R σ m args below meth cd D A Q C ws H locs ls _ hR hP hD hS hL ⟨_, _, rfl, g1, _, _, rfl, g1, hT⟩ hK)
theorem ab_dup2 {v w : Value} (hd : decode y.2.1 pc = .ok (.dup2, 1)) (hn : pc + 1 = pc2) (hv : v.category = 1) (hw : w.category = 1) (k : ab_T y d mc ms c s pc2 lo (v :: w :: v :: w :: st) h P) : ab_T y d mc ms c s pc lo (v :: w :: st) h P := by
  intro p l e R σ m args below meth cd D A Q C ws H locs ls cst hR hP hD hS hL hT hK
  subst hn
  obtain ⟨c1, s1, rfl, g1, c2, s2, rfl, g2, hT⟩ := hT
  exact lv_dup2_11 C.1 C.2.1 hd (ab_c1 g1 hv) (ab_c1 g2 hw) (k p l e R σ m args below meth cd D A Q C ws H locs ls _ hR hP hD hS hL ⟨_, _, rfl, g1, _, _, rfl, g2, _, _, rfl, g1, _, _, rfl, g2, hT⟩ hK)
theorem ab_icmp_eq {x z : Int32} {α : Type} {X Y : Option α} {r : α} {off : Int} {tgt : Nat} (hd : decode y.2.1 pc = .ok (.if_icmp .eq off, 3)) (ht : (pc : Int) + off = (tgt : Int)) (hn : pc + 3 = pc2) (hf : (if x = z then X else Y) = some r) (kt : x = z → X = some r → ab_T y d mc ms c s tgt lo st h P) (kf : ¬ (x = z) → Y = some r → ab_T y d mc ms c s pc2 lo st h P) : ab_T y d mc ms c s pc lo (.int z :: .int x :: st) h P := by
  have kt : x = z → ab_T y d mc ms c s tgt lo st h P := fun q => kt q (by rw [if_pos q] at hf; exact hf)
  have kf : ¬ (x = z) → ab_T y d mc ms c s pc2 lo st h P := fun q => kf q (by rw [if_neg q] at hf; exact hf)
  intro p l e R σ m args below meth cd D A Q C ws H locs ls cst hR hP hD hS hL hT hK
  subst hn
  obtain ⟨c1, s1, rfl, g1, c2, s2, rfl, g2, hT⟩ := hT
  have g1 : c1 = .int z := g1
  have g2 : c2 = .int x := g2
  subst g1 g2
  exact lv_icmp_eq C.1 C.2.1 hd ht (fun q => kt q p l e R σ m args below meth cd D A Q C ws H locs ls _ hR hP hD hS hL hT hK) (fun q => kf q p l e R σ m args below meth cd D A Q C ws H locs ls _ hR hP hD hS hL hT hK)
theorem ab_if_eq {x : Int32} {α : Type} {X Y : Option α} {r : α} {off : Int} {tgt : Nat} (hd : decode y.2.1 pc = .ok (.ifCond .eq off, 3)) (ht : (pc : Int) + off = (tgt : Int)) (hn : pc + 3 = pc2) (hf : (if x = 0 then X else Y) = some r) (kt : x = 0 → X = some r → ab_T y d mc ms c s tgt lo st h P) (kf : ¬ (x = 0) → Y = some r → ab_T y d mc ms c s pc2 lo st h P) : ab_T y d mc ms c s pc lo (.int x :: st) h P := by
  have kt : x = 0 → ab_T y d mc ms c s tgt lo st h P := fun q => kt q (by rw [if_pos q] at hf; exact hf)
  have kf : ¬ (x = 0) → ab_T y d mc ms c s pc2 lo st h P := fun q => kf q (by rw [if_neg q] at hf; exact hf)
  intro p l e R σ m args below meth cd D A Q C ws H locs ls cst hR hP hD hS hL hT hK
  subst hn
  obtain ⟨c1, s1, rfl, g1, hT⟩ := hT
  have g1 : c1 = .int x := g1
  subst g1
  exact lv_if_eq C.1 C.2.1 hd ht (fun q => kt q p l e R σ m args below meth cd D A Q C ws H locs ls _ hR hP hD hS hL hT hK) (fun q => kf q p l e R σ m args below meth cd D A Q C ws H locs ls _ hR hP hD hS hL hT hK)
theorem ab_icmp_ne {x z : Int32} {α : Type} {X Y : Option α} {r : α} {off : Int} {tgt : Nat} (hd : decode y.2.1 pc = .ok (.if_icmp .ne off, 3)) (ht : (pc : Int) + off = (tgt : Int)) (hn : pc + 3 = pc2) (hf : (if x = z then Y else X) = some r) (kt : ¬ (x = z) → X = some r → ab_T y d mc ms c s tgt lo st h P) (kf : x = z → Y = some r → ab_T y d mc ms c s pc2 lo st h P) : ab_T y d mc ms c s pc lo (.int z :: .int x :: st) h P := by
  have kt : ¬ (x = z) → ab_T y d mc ms c s tgt lo st h P := fun q => kt q (by rw [if_neg q] at hf; exact hf)
  have kf : x = z → ab_T y d mc ms c s pc2 lo st h P := fun q => kf q (by rw [if_pos q] at hf; exact hf)
  intro p l e R σ m args below meth cd D A Q C ws H locs ls cst hR hP hD hS hL hT hK
  subst hn
  obtain ⟨c1, s1, rfl, g1, c2, s2, rfl, g2, hT⟩ := hT
  have g1 : c1 = .int z := g1
  have g2 : c2 = .int x := g2
  subst g1 g2
  exact lv_icmp_ne C.1 C.2.1 hd ht (fun q => kt q p l e R σ m args below meth cd D A Q C ws H locs ls _ hR hP hD hS hL hT hK) (fun q => kf q p l e R σ m args below meth cd D A Q C ws H locs ls _ hR hP hD hS hL hT hK)
theorem ab_if_ne {x : Int32} {α : Type} {X Y : Option α} {r : α} {off : Int} {tgt : Nat} (hd : decode y.2.1 pc = .ok (.ifCond .ne off, 3)) (ht : (pc : Int) + off = (tgt : Int)) (hn : pc + 3 = pc2) (hf : (if x = 0 then Y else X) = some r) (kt : ¬ (x = 0) → X = some r → ab_T y d mc ms c s tgt lo st h P) (kf : x = 0 → Y = some r → ab_T y d mc ms c s pc2 lo st h P) : ab_T y d mc ms c s pc lo (.int x :: st) h P := by
  have kt : ¬ (x = 0) → ab_T y d mc ms c s tgt lo st h P := fun q => kt q (by rw [if_neg q] at hf; exact hf)
  have kf : x = 0 → ab_T y d mc ms c s pc2 lo st h P := fun q => kf q (by rw [if_pos q] at hf; exact hf)
  intro p l e R σ m args below meth cd D A Q C ws H locs ls cst hR hP hD hS hL hT hK
  subst hn
  obtain ⟨c1, s1, rfl, g1, hT⟩ := hT
  have g1 : c1 = .int x := g1
  subst g1
  exact lv_if_ne C.1 C.2.1 hd ht (fun q => kt q p l e R σ m args below meth cd D A Q C ws H locs ls _ hR hP hD hS hL hT hK) (fun q => kf q p l e R σ m args below meth cd D A Q C ws H locs ls _ hR hP hD hS hL hT hK)
theorem ab_icmp_lt {x z : Int32} {α : Type} {X Y : Option α} {r : α} {off : Int} {tgt : Nat} (hd : decode y.2.1 pc = .ok (.if_icmp .lt off, 3)) (ht : (pc : Int) + off = (tgt : Int)) (hn : pc + 3 = pc2) (hf : (if x < z then X else Y) = some r) (kt : x < z → X = some r → ab_T y d mc ms c s tgt lo st h P) (kf : ¬ (x < z) → Y = some r → ab_T y d mc ms c s pc2 lo st h P) : ab_T y d mc ms c s pc lo (.int z :: .int x :: st) h P := by
  have kt : x < z → ab_T y d mc ms c s tgt lo st h P := fun q => kt q (by rw [if_pos q] at hf; exact hf)
  have kf : ¬ (x < z) → ab_T y d mc ms c s pc2 lo st h P := fun q => kf q (by rw [if_neg q] at hf; exact hf)
  intro p l e R σ m args below meth cd D A Q C ws H locs ls cst hR hP hD hS hL hT hK
  subst hn
  obtain ⟨c1, s1, rfl, g1, c2, s2, rfl, g2, hT⟩ := hT
  have g1 : c1 = .int z := g1
  have g2 : c2 = .int x := g2
  subst g1 g2
  exact lv_icmp_lt C.1 C.2.1 hd ht (fun q => kt q p l e R σ m args below meth cd D A Q C ws H locs ls _ hR hP hD hS hL hT hK) (fun q => kf q p l e R σ m args below meth cd D A Q C ws H locs ls _ hR hP hD hS hL hT hK)
theorem ab_if_lt {x : Int32} {α : Type} {X Y : Option α} {r : α} {off : Int} {tgt : Nat} (hd : decode y.2.1 pc = .ok (.ifCond .lt off, 3)) (ht : (pc : Int) + off = (tgt : Int)) (hn : pc + 3 = pc2) (hf : (if x < 0 then X else Y) = some r) (kt : x < 0 → X = some r → ab_T y d mc ms c s tgt lo st h P) (kf : ¬ (x < 0) → Y = some r → ab_T y d mc ms c s pc2 lo st h P) : ab_T y d mc ms c s pc lo (.int x :: st) h P := by
  have kt : x < 0 → ab_T y d mc ms c s tgt lo st h P := fun q => kt q (by rw [if_pos q] at hf; exact hf)
  have kf : ¬ (x < 0) → ab_T y d mc ms c s pc2 lo st h P := fun q => kf q (by rw [if_neg q] at hf; exact hf)
  intro p l e R σ m args below meth cd D A Q C ws H locs ls cst hR hP hD hS hL hT hK
  subst hn
  obtain ⟨c1, s1, rfl, g1, hT⟩ := hT
  have g1 : c1 = .int x := g1
  subst g1
  exact lv_if_lt C.1 C.2.1 hd ht (fun q => kt q p l e R σ m args below meth cd D A Q C ws H locs ls _ hR hP hD hS hL hT hK) (fun q => kf q p l e R σ m args below meth cd D A Q C ws H locs ls _ hR hP hD hS hL hT hK)
theorem ab_icmp_ge {x z : Int32} {α : Type} {X Y : Option α} {r : α} {off : Int} {tgt : Nat} (hd : decode y.2.1 pc = .ok (.if_icmp .ge off, 3)) (ht : (pc : Int) + off = (tgt : Int)) (hn : pc + 3 = pc2) (hf : (if z ≤ x then X else Y) = some r) (kt : z ≤ x → X = some r → ab_T y d mc ms c s tgt lo st h P) (kf : ¬ (z ≤ x) → Y = some r → ab_T y d mc ms c s pc2 lo st h P) : ab_T y d mc ms c s pc lo (.int z :: .int x :: st) h P := by
  have kt : z ≤ x → ab_T y d mc ms c s tgt lo st h P := fun q => kt q (by rw [if_pos q] at hf; exact hf)
  have kf : ¬ (z ≤ x) → ab_T y d mc ms c s pc2 lo st h P := fun q => kf q (by rw [if_neg q] at hf; exact hf)
  intro p l e R σ m args below meth cd D A Q C ws H locs ls cst hR hP hD hS hL hT hK
  subst hn
  obtain ⟨c1, s1, rfl, g1, c2, s2, rfl, g2, hT⟩ := hT
  have g1 : c1 = .int z := g1
  have g2 : c2 = .int x := g2
  subst g1 g2
  exact lv_icmp_ge C.1 C.2.1 hd ht (fun q => kt q p l e R σ m args below meth cd D A Q C ws H locs ls _ hR hP hD hS hL hT hK) (fun q => kf q p l e R σ m args below meth cd D A Q C ws H locs ls _ hR hP hD hS hL hT hK)
theorem ab_if_ge {x : Int32} {α : Type} {X Y : Option α} {r : α} {off : Int} {tgt : Nat} (hd : decode y.2.1 pc = .ok (.ifCond .ge off, 3)) (ht : (pc : Int) + off = (tgt : Int)) (hn : pc + 3 = pc2) (hf : (if 0 ≤ x then X else Y) = some r) (kt : 0 ≤ x → X = some r → ab_T y d mc ms c s tgt lo st h P) (kf : ¬ (0 ≤ x) → Y = some r → ab_T y d mc ms c s pc2 lo st h P) : ab_T y d mc ms c s pc lo (.int x :: st) h P := by
  have kt : 0 ≤ x → ab_T y d mc ms c s tgt lo st h P := fun q => kt q (by rw [if_pos q] at hf; exact hf)
  have kf : ¬ (0 ≤ x) → ab_T y d mc ms c s pc2 lo st h P := fun q => kf q (by rw [if_neg q] at hf; exact hf)
  intro p l e R σ m args below meth cd D A Q C ws H locs ls cst hR hP hD hS hL hT hK
  subst hn
  obtain ⟨c1, s1, rfl, g1, hT⟩ := hT
  have g1 : c1 = .int x := g1
  subst g1
  exact lv_if_ge C.1 C.2.1 hd ht (fun q => kt q p l e R σ m args below meth cd D A Q C ws H locs ls _ hR hP hD hS hL hT hK) (fun q => kf q p l e R σ m args below meth cd D A Q C ws H locs ls _ hR hP hD hS hL hT hK)
theorem ab_icmp_gt {x z : Int32} {α : Type} {X Y : Option α} {r : α} {off : Int} {tgt : Nat} (hd : decode y.2.1 pc = .ok (.if_icmp .gt off, 3)) (ht : (pc : Int) + off = (tgt : Int)) (hn : pc + 3 = pc2) (hf : (if z < x then X else Y) = some r) (kt : z < x → X = some r → ab_T y d mc ms c s tgt lo st h P) (kf : ¬ (z < x) → Y = some r → ab_T y d mc ms c s pc2 lo st h P) : ab_T y d mc ms c s pc lo (.int z :: .int x :: st) h P := by
  have kt : z < x → ab_T y d mc ms c s tgt lo st h P := fun q => kt q (by rw [if_pos q] at hf; exact hf)
  have kf : ¬ (z < x) → ab_T y d mc ms c s pc2 lo st h P := fun q => kf q (by rw [if_neg q] at hf; exact hf)
  intro p l e R σ m args below meth cd D A Q C ws H locs ls cst hR hP hD hS hL hT hK
  subst hn
  obtain ⟨c1, s1, rfl, g1, c2, s2, rfl, g2, hT⟩ := hT
  have g1 : c1 = .int z := g1
  have g2 : c2 = .int x := g2
  subst g1 g2
  exact lv_icmp_gt C.1 C.2.1 hd ht (fun q => kt q p l e R σ m args below meth cd D A Q C ws H locs ls _ hR hP hD hS hL hT hK) (fun q => kf q p l e R σ m args below meth cd D A Q C ws H locs ls _ hR hP hD hS hL hT hK)
theorem ab_if_gt {x : Int32} {α : Type} {X Y : Option α} {r : α} {off : Int} {tgt : Nat} (hd : decode y.2.1 pc = .ok (.ifCond .gt off, 3)) (ht : (pc : Int) + off = (tgt : Int)) (hn : pc + 3 = pc2) (hf : (if 0 < x then X else Y) = some r) (kt : 0 < x → X = some r → ab_T y d mc ms c s tgt lo st h P) (kf : ¬ (0 < x) → Y = some r → ab_T y d mc ms c s pc2 lo st h P) : ab_T y d mc ms c s pc lo (.int x :: st) h P := by
  have kt : 0 < x → ab_T y d mc ms c s tgt lo st h P := fun q => kt q (by rw [if_pos q] at hf; exact hf)
  have kf : ¬ (0 < x) → ab_T y d mc ms c s pc2 lo st h P := fun q => kf q (by rw [if_neg q] at hf; exact hf)
  intro p l e R σ m args below meth cd D A Q C ws H locs ls cst hR hP hD hS hL hT hK
  subst hn
  obtain ⟨c1, s1, rfl, g1, hT⟩ := hT
  have g1 : c1 = .int x := g1
  subst g1
  exact lv_if_gt C.1 C.2.1 hd ht (fun q => kt q p l e R σ m args below meth cd D A Q C ws H locs ls _ hR hP hD hS hL hT hK) (fun q => kf q p l e R σ m args below meth cd D A Q C ws H locs ls _ hR hP hD hS hL hT hK)
theorem ab_icmp_le {x z : Int32} {α : Type} {X Y : Option α} {r : α} {off : Int} {tgt : Nat} (hd : decode y.2.1 pc = .ok (.if_icmp .le off, 3)) (ht : (pc : Int) + off = (tgt : Int)) (hn : pc + 3 = pc2) (hf : (if x ≤ z then X else Y) = some r) (kt : x ≤ z → X = some r → ab_T y d mc ms c s tgt lo st h P) (kf : ¬ (x ≤ z) → Y = some r → ab_T y d mc ms c s pc2 lo st h P) : ab_T y d mc ms c s pc lo (.int z :: .int x :: st) h P := by
  have kt : x ≤ z → ab_T y d mc ms c s tgt lo st h P := fun q => kt q (by rw [if_pos q] at hf; exact hf)
  have kf : ¬ (x ≤ z) → ab_T y d mc ms c s pc2 lo st h P := fun q => kf q (by rw [if_neg q] at hf; exact hf)
  intro p l e R σ m args below meth cd D A Q C ws H locs ls cst hR hP hD hS hL hT hK
  subst hn
  obtain ⟨c1, s1, rfl, g1, c2, s2, rfl, g2, hT⟩ := hT
  have g1 : c1 = .int z := g1
  have g2 : c2 = .int x := g2
  subst g1 g2
  exact lv_icmp_le C.1 C.2.1 hd ht (fun q => kt q p l e R σ m args below meth cd D A Q C ws H locs ls _ hR hP hD hS hL hT hK) (fun q => kf q p l e R σ m args below meth cd D A Q C ws H locs ls _ hR hP hD hS hL hT hK)
theorem ab_if_le {x : Int32} {α : Type} {X Y : Option α} {r : α} {off : Int} {tgt : Nat} (hd : decode y.2.1 pc = .ok (.ifCond .le off, 3)) (ht : (pc : Int) + off = (tgt : Int)) (hn : pc + 3 = pc2) (hf : (if x ≤ 0 then X else Y) = some r) (kt : x ≤ 0 → X = some r → ab_T y d mc ms c s tgt lo st h P) (kf : ¬ (x ≤ 0) → Y = some r → ab_T y d mc ms c s pc2 lo st h P) : ab_T y d mc ms c s pc lo (.int x :: st) h P := by
  have kt : x ≤ 0 → ab_T y d mc ms c s tgt lo st h P := fun q => kt q (by rw [if_pos q] at hf; exact hf)
  have kf : ¬ (x ≤ 0) → ab_T y d mc ms c s pc2 lo st h P := fun q => kf q (by rw [if_neg q] at hf; exact hf)
  intro p l e R σ m args below meth cd D A Q C ws H locs ls cst hR hP hD hS hL hT hK
  subst hn
  obtain ⟨c1, s1, rfl, g1, hT⟩ := hT
  have g1 : c1 = .int x := g1
  subst g1
  exact lv_if_le C.1 C.2.1 hd ht (fun q => kt q p l e R σ m args below meth cd D A Q C ws H locs ls _ hR hP hD hS hL hT hK) (fun q => kf q p l e R σ m args below meth cd D A Q C ws H locs ls _ hR hP hD hS hL hT hK)
theorem ab_goto {off : Int} {tgt : Nat} (hd : decode y.2.1 pc = .ok (.goto off, 3)) (ht : (pc : Int) + off = (tgt : Int)) (k : ab_T y d mc ms c s tgt lo st h P) : ab_T y d mc ms c s pc lo st h P := by
  intro p l e R σ m args below meth cd D A Q C ws H locs ls cst hR hP hD hS hL hT hK
  exact lv_goto C.1 C.2.1 hd ht (k p l e R σ m args below meth cd D A Q C ws H locs ls _ hR hP hD hS hL hT hK)
theorem ab_ifnull {x : Option Nat} {off : Int} {tgt : Nat} (hd : decode y.2.1 pc = .ok (.ifnull off, 3)) (ht : (pc : Int) + off = (tgt : Int)) (hn : pc + 3 = pc2) (k0 : x = none → ab_T y d mc ms c s tgt lo st h P) (k1 : ∀ q, x = some q → ab_T y d mc ms c s pc2 lo st h P) : ab_T y d mc ms c s pc lo (va_rf x :: st) h P := by
  intro p l e R σ m args below meth cd D A Q C ws H locs ls cst hR hP hD hS hL hT hK
  subst hn
  obtain ⟨c1, s1, rfl, g1, hT⟩ := hT
  cases x with
  | none =>
    have g3 : c1 = .null := g1
    subst g3
    exact lv_ifnullN C.1 C.2.1 hd ht (k0 rfl p l e R σ m args below meth cd D A Q C ws H locs ls _ hR hP hD hS hL hT hK)
  | some q =>
    obtain ⟨a, x0, -, g4⟩ := g1
    subst g4
    exact lv_ifnull C.1 C.2.1 hd (k1 q rfl p l e R σ m args below meth cd D A Q C ws H locs ls _ hR hP hD hS hL hT hK)
theorem ab_ifnonnull {x : Option Nat} {off : Int} {tgt : Nat} (hd : decode y.2.1 pc = .ok (.ifnonnull off, 3)) (ht : (pc : Int) + off = (tgt : Int)) (hn : pc + 3 = pc2) (k0 : x = none → ab_T y d mc ms c s pc2 lo st h P) (k1 : ∀ q, x = some q → ab_T y d mc ms c s tgt lo st h P) : ab_T y d mc ms c s pc lo (va_rf x :: st) h P := by
  intro p l e R σ m args below meth cd D A Q C ws H locs ls cst hR hP hD hS hL hT hK
  subst hn
  obtain ⟨c1, s1, rfl, g1, hT⟩ := hT
  cases x with
  | none =>
    have g3 : c1 = .null := g1
    subst g3
    exact lv_ifnonnullN C.1 C.2.1 hd (k0 rfl p l e R σ m args below meth cd D A Q C ws H locs ls _ hR hP hD hS hL hT hK)
  | some q =>
    obtain ⟨a, x0, -, g4⟩ := g1
    subst g4
    exact lv_ifnonnull C.1 C.2.1 hd ht (k1 q rfl p l e R σ m args below meth cd D A Q C ws H locs ls _ hR hP hD hS hL hT hK)
theorem ab_tswIn {dflt lw hi : Int} {offs : Array Int} {len : Nat} {x : Int32} {off : Int} {tgt : Nat} (hd : decode y.2.1 pc = .ok (.tableswitch dflt lw hi offs, len)) (h1 : ¬ x.toInt < lw) (h2 : ¬ hi < x.toInt) (ho : offs[(x.toInt - lw).toNat]? = some off) (ht : (pc : Int) + off = (tgt : Int)) (k : ab_T y d mc ms c s tgt lo st h P) : ab_T y d mc ms c s pc lo (.int x :: st) h P := by
  intro p l e R σ m args below meth cd D A Q C ws H locs ls cst hR hP hD hS hL hT hK
  obtain ⟨c1, s1, rfl, g1, hT⟩ := hT
  have g1 : c1 = .int x := g1
  subst g1
  exact lv_tableIn C.1 C.2.1 hd h1 h2 ho ht (k p l e R σ m args below meth cd D A Q C ws H locs ls _ hR hP hD hS hL hT hK)
theorem ab_tswOut {dflt lw hi : Int} {offs : Array Int} {len : Nat} {x : Int32} {tgt : Nat} (hd : decode y.2.1 pc = .ok (.tableswitch dflt lw hi offs, len)) (h1 : x.toInt < lw ∨ hi < x.toInt) (ht : (pc : Int) + dflt = (tgt : Int)) (k : ab_T y d mc ms c s tgt lo st h P) : ab_T y d mc ms c s pc lo (.int x :: st) h P := by
  intro p l e R σ m args below meth cd D A Q C ws H locs ls cst hR hP hD hS hL hT hK
  obtain ⟨c1, s1, rfl, g1, hT⟩ := hT
  have g1 : c1 = .int x := g1
  subst g1
  exact lv_tableOut C.1 C.2.1 hd h1 ht (k p l e R σ m args below meth cd D A Q C ws H locs ls _ hR hP hD hS hL hT hK)
theorem ab_lsw {dflt : Int} {ps : Array (Int × Int)} {len : Nat} {x : Int32} {off : Int} {tgt : Nat} (hd : decode y.2.1 pc = .ok (.lookupswitch dflt ps, len)) (hp : (ps.toList.zip (ps.toList.drop 1)).all (fun (a, next) => a.1 < next.1) = true) (ho : Op.lookupswitch.offset ps.toList dflt x.toInt = off) (ht : (pc : Int) + off = (tgt : Int)) (k : ab_T y d mc ms c s tgt lo st h P) : ab_T y d mc ms c s pc lo (.int x :: st) h P := by
  intro p l e R σ m args below meth cd D A Q C ws H locs ls cst hR hP hD hS hL hT hK
  obtain ⟨c1, s1, rfl, g1, hT⟩ := hT
  have g1 : c1 = .int x := g1
  subst g1
  exact lv_lookup C.1 C.2.1 hd hp ho ht (k p l e R σ m args below meth cd D A Q C ws H locs ls _ hR hP hD hS hL hT hK)
def ab_st1 (lo : List (Option Value)) (i : Nat) (v : Value) : List (Option Value) :=
  (match i with
    | 0 => lo
    | j + 1 => match lo[j]? with
      | some (some w) => if w.category = 2 then lo.set j none else lo
      | _ => lo).set i (some v)
theorem ab_st1_in {lo : List (Option Value)} {i : Nat} {v : Value} {j : Nat} {w : Value} (h : (ab_st1 lo i v)[j]? = some (some w)) : (j = i ∧ w = v) ∨ (j ≠ i ∧ lo[j]? = some (some w) ∧ ¬ (j + 1 = i ∧ w.category = 2)) := by
  unfold ab_st1 at h
  by_cases hj : j = i
  · subst hj
    left
    refine ⟨rfl, ?_⟩
    have hl := (List.getElem?_eq_some_iff.mp h).1
    rw [List.length_set] at hl
    rw [List.getElem?_set_self hl] at h
    exact (Option.some.inj (Option.some.inj h)).symm
  · right
    rw [List.getElem?_set_ne (Ne.symm hj)] at h
    refine ⟨hj, ?_⟩
    cases i with
    | zero => exact ⟨h, fun q => by omega⟩
    | succ i =>
      dsimp only at h
      split at h
      · rename_i w0 hw0
        split at h
        · by_cases hji : j = i
          · subst hji
            have hl := (List.getElem?_eq_some_iff.mp hw0).1
            rw [List.getElem?_set_self hl] at h
            exact absurd h (by simp)
          · rw [List.getElem?_set_ne (Ne.symm hji)] at h
            exact ⟨h, fun q => hji (by omega)⟩
        · rename_i hc
          refine ⟨h, fun q => hc ?_⟩
          have hji : j = i := by omega
          subst hji
          rw [hw0] at h
          cases h
          exact q.2
      · rename_i hno
        refine ⟨h, fun q => ?_⟩
        have hji : j = i := by omega
        subst hji
        exact hno w h
def ab_all (ls : Array Slot) : List (Nat × Value) := (List.range ls.size).filterMap fun (j : Nat) => match (ls[j]? : Option Slot) with
  | some (Slot.val w) => some (j, w)
  | _ => none
theorem ab_all_has {ls : Array Slot} {n : Nat} (h1 : ls.size = n) (h2 : lv_wf ls) : lv_has ls n (ab_all ls) := by
  refine ⟨h1, h2, fun q hq => ?_⟩
  obtain ⟨j, -, hj⟩ := List.mem_filterMap.mp hq
  split at hj
  · rename_i w hw
    cases hj
    exact hw
  · cases hj
theorem ab_all_in {ls : Array Slot} {j : Nat} {w : Value} (h : ls[j]? = some (.val w)) : (j, w) ∈ ab_all ls := by
  refine List.mem_filterMap.mpr ⟨j, List.mem_range.mpr (Array.getElem?_eq_some_iff.mp h).1, ?_⟩
  rw [h]
theorem ab_Vcat {b : Nat} {ws : va_W} {v cv : Value} (hv : ab_V b ws v cv) : cv.category = v.category := by
  cases v with
  | ref q => obtain ⟨a, x0, -, rfl⟩ := hv; rfl
  | float z => have hv : cv = .ref b := hv; subst hv; rfl
  | int z => have hv : cv = .int z := hv; subst hv; rfl
  | long z => have hv : cv = .long z := hv; subst hv; rfl
  | double z => have hv : cv = .double z := hv; subst hv; rfl
  | null => have hv : cv = .null := hv; subst hv; rfl
  | retAddr z => have hv : cv = .retAddr z := hv; subst hv; rfl
theorem ab_L_st1 {b : Nat} {ws : va_W} {n i : Nat} {lo : List (Option Value)} {ls ls' : Array Slot} {v cv : Value} (hL : ab_L b ws n lo ls) (hv : ab_V b ws v cv) (h : lv_has ls' n ((i, cv) :: (ab_all ls).filter (fun q => !(q.1 == i) && !(q.1 + 1 == i && q.2.category == 2)))) : ab_L b ws n (ab_st1 lo i v) ls' := by
  refine ⟨h.1, h.2.1, fun j w hj => ?_⟩
  rcases ab_st1_in hj with ⟨rfl, rfl⟩ | ⟨g1, g2, g3⟩
  · exact ⟨cv, h.2.2 (j, cv) List.mem_cons_self, hv⟩
  · obtain ⟨cw, g4, g5⟩ := hL.2.2 j w g2
    refine ⟨cw, h.2.2 (j, cw) (List.mem_cons_of_mem _ (List.mem_filter.mpr ⟨ab_all_in g4, ?_⟩)), g5⟩
    rw [ab_Vcat g5 |>.symm] at g3
    simp only [Bool.and_eq_true, Bool.not_eq_true', beq_eq_false_iff_ne, Bool.and_eq_false_imp, beq_iff_eq, ne_eq]
    exact ⟨g1, fun q r => g3 ⟨q, r⟩⟩
def ab_st2 (lo : List (Option Value)) (i : Nat) (v : Value) : List (Option Value) := (ab_st1 lo i v).set (i + 1) none
theorem ab_L_st2 {b : Nat} {ws : va_W} {n i : Nat} {lo : List (Option Value)} {ls ls' : Array Slot} {v cv : Value} (hL : ab_L b ws n lo ls) (hv : ab_V b ws v cv) (h : lv_has ls' n ((i, cv) :: (ab_all ls).filter (fun q => !(q.1 == i) && (!(q.1 == i + 1) && !(q.1 + 1 == i && q.2.category == 2))))) : ab_L b ws n (ab_st2 lo i v) ls' := by
  refine ⟨h.1, h.2.1, fun j w hj => ?_⟩
  unfold ab_st2 at hj
  have hji : j ≠ i + 1 := by
    intro q
    subst q
    have hl := (List.getElem?_eq_some_iff.mp hj).1
    rw [List.length_set] at hl
    rw [List.getElem?_set_self hl] at hj
    exact absurd hj (by simp)
  rw [List.getElem?_set_ne (Ne.symm hji)] at hj
  rcases ab_st1_in hj with ⟨rfl, rfl⟩ | ⟨g1, g2, g3⟩
  · exact ⟨cv, h.2.2 (j, cv) List.mem_cons_self, hv⟩
  · obtain ⟨cw, g4, g5⟩ := hL.2.2 j w g2
    refine ⟨cw, h.2.2 (j, cw) (List.mem_cons_of_mem _ (List.mem_filter.mpr ⟨ab_all_in g4, ?_⟩)), g5⟩
    rw [ab_Vcat g5 |>.symm] at g3
    simp only [Bool.and_eq_true, Bool.not_eq_true', beq_eq_false_iff_ne, Bool.and_eq_false_imp, beq_iff_eq, ne_eq]
    exact ⟨g1, hji, fun q r => g3 ⟨q, r⟩⟩
theorem ab_istore_n {j : Fin 4} {x : Int32} {lo2 : List (Option Value)} (hd : decode y.2.1 pc = .ok (.istore_n j, 1)) (hn : pc + 1 = pc2) (hi : (j : Nat) < y.2.2.1) (hl : ab_st1 lo (j : Nat) (.int x) = lo2) (k : ab_T y d mc ms c s pc2 lo2 st h P) : ab_T y d mc ms c s pc lo (.int x :: st) h P := by
  intro p l e R σ m args below meth cd D A Q C ws H locs ls cst hR hP hD hS hL hT hK
  subst hn hl
  obtain ⟨c1, s1, rfl, g1, hT⟩ := hT
  have g2 : c1 = .int x := g1
  subst g2
  exact lv_istore_n C.1 C.2.1 hd rfl (ab_all_has hL.1 hL.2.1) hi rfl (fun ls2 h2 => k p l e R σ m args below meth cd D A Q C ws H locs ls2 _ hR hP hD hS (ab_L_st1 hL g1 h2) hT hK)
theorem ab_istore {j : Nat} {x : Int32} {lo2 : List (Option Value)} (hd : decode y.2.1 pc = .ok (.istore j, 2)) (hn : pc + 2 = pc2) (hi : j < y.2.2.1) (hl : ab_st1 lo j (.int x) = lo2) (k : ab_T y d mc ms c s pc2 lo2 st h P) : ab_T y d mc ms c s pc lo (.int x :: st) h P := by
  intro p l e R σ m args below meth cd D A Q C ws H locs ls cst hR hP hD hS hL hT hK
  subst hn hl
  obtain ⟨c1, s1, rfl, g1, hT⟩ := hT
  have g2 : c1 = .int x := g1
  subst g2
  exact lv_istore C.1 C.2.1 hd (ab_all_has hL.1 hL.2.1) hi rfl (fun ls2 h2 => k p l e R σ m args below meth cd D A Q C ws H locs ls2 _ hR hP hD hS (ab_L_st1 hL g1 h2) hT hK)
theorem ab_lstore_n {j : Fin 4} {x : Int64} {lo2 : List (Option Value)} (hd : decode y.2.1 pc = .ok (.lstore_n j, 1)) (hn : pc + 1 = pc2) (hi : (j : Nat) + 1 < y.2.2.1) (hl : ab_st2 lo (j : Nat) (.long x) = lo2) (k : ab_T y d mc ms c s pc2 lo2 st h P) : ab_T y d mc ms c s pc lo (.long x :: st) h P := by
  intro p l e R σ m args below meth cd D A Q C ws H locs ls cst hR hP hD hS hL hT hK
  subst hn hl
  obtain ⟨c1, s1, rfl, g1, hT⟩ := hT
  have g2 : c1 = .long x := g1
  subst g2
  exact lv_lstore_n C.1 C.2.1 hd rfl (ab_all_has hL.1 hL.2.1) hi rfl (fun ls2 h2 => k p l e R σ m args below meth cd D A Q C ws H locs ls2 _ hR hP hD hS (ab_L_st2 hL g1 h2) hT hK)
theorem ab_lstore {j : Nat} {x : Int64} {lo2 : List (Option Value)} (hd : decode y.2.1 pc = .ok (.lstore j, 2)) (hn : pc + 2 = pc2) (hi : j + 1 < y.2.2.1) (hl : ab_st2 lo j (.long x) = lo2) (k : ab_T y d mc ms c s pc2 lo2 st h P) : ab_T y d mc ms c s pc lo (.long x :: st) h P := by
  intro p l e R σ m args below meth cd D A Q C ws H locs ls cst hR hP hD hS hL hT hK
  subst hn hl
  obtain ⟨c1, s1, rfl, g1, hT⟩ := hT
  have g2 : c1 = .long x := g1
  subst g2
  exact lv_lstore C.1 C.2.1 hd (ab_all_has hL.1 hL.2.1) hi rfl (fun ls2 h2 => k p l e R σ m args below meth cd D A Q C ws H locs ls2 _ hR hP hD hS (ab_L_st2 hL g1 h2) hT hK)
theorem ab_astore_n {j : Fin 4} {x : Option Nat} {lo2 : List (Option Value)} (hd : decode y.2.1 pc = .ok (.astore_n j, 1)) (hn : pc + 1 = pc2) (hi : (j : Nat) < y.2.2.1) (hl : ab_st1 lo (j : Nat) (va_rf x) = lo2) (k : ab_T y d mc ms c s pc2 lo2 st h P) : ab_T y d mc ms c s pc lo (va_rf x :: st) h P := by
  intro p l e R σ m args below meth cd D A Q C ws H locs ls cst hR hP hD hS hL hT hK
  subst hn hl
  obtain ⟨c1, s1, rfl, g1, hT⟩ := hT
  have hk := fun (ls2 : Array Slot) (h2 : lv_has ls2 y.2.2.1 (((j : Nat), c1) :: (ab_all ls).filter (fun q => !(q.1 == (j : Nat)) && !(q.1 + 1 == (j : Nat) && q.2.category == 2)))) => k p l e R σ m args below meth cd D A Q C ws H locs ls2 _ hR hP hD hS (ab_L_st1 hL g1 h2) hT hK
  cases x with
  | none =>
    have g3 : c1 = .null := g1
    subst g3
    exact lv_astore_nN C.1 C.2.1 hd rfl (ab_all_has hL.1 hL.2.1) hi rfl hk
  | some q =>
    have g3 := g1
    obtain ⟨a, x0, -, g4⟩ := g3
    subst g4
    exact lv_astore_n C.1 C.2.1 hd rfl (ab_all_has hL.1 hL.2.1) hi rfl hk
theorem ab_astore {j : Nat} {x : Option Nat} {lo2 : List (Option Value)} (hd : decode y.2.1 pc = .ok (.astore j, 2)) (hn : pc + 2 = pc2) (hi : j < y.2.2.1) (hl : ab_st1 lo j (va_rf x) = lo2) (k : ab_T y d mc ms c s pc2 lo2 st h P) : ab_T y d mc ms c s pc lo (va_rf x :: st) h P := by
  intro p l e R σ m args below meth cd D A Q C ws H locs ls cst hR hP hD hS hL hT hK
  subst hn hl
  obtain ⟨c1, s1, rfl, g1, hT⟩ := hT
  have hk := fun (ls2 : Array Slot) (h2 : lv_has ls2 y.2.2.1 ((j, c1) :: (ab_all ls).filter (fun q => !(q.1 == j) && !(q.1 + 1 == j && q.2.category == 2)))) => k p l e R σ m args below meth cd D A Q C ws H locs ls2 _ hR hP hD hS (ab_L_st1 hL g1 h2) hT hK
  cases x with
  | none =>
    have g3 : c1 = .null := g1
    subst g3
    exact lv_astoreN C.1 C.2.1 hd (ab_all_has hL.1 hL.2.1) hi rfl hk
  | some q =>
    have g3 := g1
    obtain ⟨a, x0, -, g4⟩ := g3
    subst g4
    exact lv_astore C.1 C.2.1 hd (ab_all_has hL.1 hL.2.1) hi rfl hk
theorem ab_all_at {ls : Array Slot} {i : Nat} {w : Value} (h : ls[i]? = some (.val w)) : ∃ k : Nat, (ab_all ls)[k]? = some (i, w) := List.getElem?_of_mem (ab_all_in h)
theorem ab_iinc {i : Nat} {n : Int} {x v : Int32} {lo2 : List (Option Value)} (hd : decode y.2.1 pc = .ok (.iinc i n, 3)) (hn : pc + 3 = pc2) (hg : lo[i]? = some (some (.int x))) (hv : x + Int32.ofInt n = v) (hi : i < y.2.2.1) (hl : ab_st1 lo i (.int v) = lo2) (k : ab_T y d mc ms c s pc2 lo2 st h P) : ab_T y d mc ms c s pc lo st h P := by
  intro p l e R σ m args below meth cd D A Q C ws H locs ls cst hR hP hD hS hL hT hK
  subst hn hl
  obtain ⟨cv, g1, g2⟩ := hL.2.2 _ _ hg
  have g2 : cv = .int x := g2
  subst g2
  obtain ⟨j, hj⟩ := ab_all_at g1
  exact lv_iinc C.1 C.2.1 hd (ab_all_has hL.1 hL.2.1) hj hv hi rfl (fun ls2 h2 => k p l e R σ m args below meth cd D A Q C ws H locs ls2 _ hR hP hD hS (ab_L_st1 hL rfl h2) hT hK)
def ab_le (lo2 lo : List (Option Value)) : Prop := ∀ (i : Nat) (v : Value), lo2[i]? = some (some v) → lo[i]? = some (some v)
theorem ab_le0 {lo : List (Option Value)} : ab_le [] lo := fun i v h => by simp at h
theorem ab_leN {lo2 lo : List (Option Value)} {x : Option Value} (h : ab_le lo2 lo) : ab_le (none :: lo2) (x :: lo) := fun i v g => by
  cases i with
  | zero => simp at g
  | succ i => simpa using h i v (by simpa using g)
theorem ab_leS {lo2 lo : List (Option Value)} {x : Option Value} (h : ab_le lo2 lo) : ab_le (x :: lo2) (x :: lo) := fun i v g => by
  cases i with
  | zero => simpa using g
  | succ i => simpa using h i v (by simpa using g)
theorem ab_weak {lo2 : List (Option Value)} (k : ab_T y d mc ms c s pc lo2 st h P) (hle : ab_le lo2 lo) : ab_T y d mc ms c s pc lo st h P := by
  intro p l e R σ m args below meth cd D A Q C ws H locs ls cst hR hP hD hS hL hT hK
  exact k p l e R σ m args below meth cd D A Q C ws H locs ls _ hR hP hD hS ⟨hL.1, hL.2.1, fun i v g => hL.2.2 i v (hle i v g)⟩ hT hK
theorem ab_retI {x : Int32} (hd : decode y.2.1 pc = .ok (.ireturn, 1)) (hr : y.2.2.2.1 = some .int ∨ y.2.2.2.1 = some .boolean ∧ (x = 0 ∨ x = 1)) (hc : c ≤ mc) (hs : s ≤ ms) (hp : P (some (.int x)) h) : ab_T y d mc ms c s pc lo [.int x] h P := by
  intro p l e R σ m args below meth cd D A Q C ws H locs ls cst hR hP hD hS hL hT hK
  obtain ⟨c1, s1, rfl, g1, hT⟩ := hT
  have g1 : c1 = .int x := g1
  have hT : s1 = [] := hT
  subst g1 hT
  exact W.widen hc hs (hK (some (.int x)) h ws H locs ls pc (some (.int x)) hp ab_P.rf hR hP hD hS ⟨_, rfl, rfl⟩ (Or.inl ⟨hd, hr⟩) hL.1)
/-- the walk is left here -/
theorem ab_exitI {x : Int32} (hx : ab_XT y pc) (hc : c ≤ mc) (hs : s ≤ ms) (hp : P (some (.int x)) h) : ab_T y d mc ms c s pc lo [.int x] h P := by
  intro p l e R σ m args below meth cd D A Q C ws H locs ls cst hR hP hD hS hL hT hK
  obtain ⟨c1, s1, rfl, g1, hT⟩ := hT
  have g1 : c1 = .int x := g1
  have hT : s1 = [] := hT
  subst g1 hT
  exact W.widen hc hs (hK (some (.int x)) h ws H locs ls pc (some (.int x)) hp ab_P.rf hR hP hD hS ⟨_, rfl, rfl⟩ (Or.inr hx) hL.1)
theorem ab_exitV (hx : ab_XT y pc) (hc : c ≤ mc) (hs : s ≤ ms) (hp : P none h) : ab_T y d mc ms c s pc lo [] h P := by
  intro p l e R σ m args below meth cd D A Q C ws H locs ls cst hR hP hD hS hL hT hK
  have hT : cst = [] := hT
  subst hT
  exact W.widen hc hs (hK none h ws H locs ls pc none hp ab_P.rf hR hP hD hS rfl (Or.inr hx) hL.1)
theorem ab_retL {x : Int64} (hd : decode y.2.1 pc = .ok (.lreturn, 1)) (hr : y.2.2.2.1 = some .long) (hc : c ≤ mc) (hs : s ≤ ms) (hp : P (some (.long x)) h) : ab_T y d mc ms c s pc lo [.long x] h P := by
  intro p l e R σ m args below meth cd D A Q C ws H locs ls cst hR hP hD hS hL hT hK
  obtain ⟨c1, s1, rfl, g1, hT⟩ := hT
  have g1 : c1 = .long x := g1
  have hT : s1 = [] := hT
  subst g1 hT
  exact W.widen hc hs (hK (some (.long x)) h ws H locs ls pc (some (.long x)) hp ab_P.rf hR hP hD hS ⟨_, rfl, rfl⟩ ⟨hd, hr⟩ hL.1)
theorem ab_retA {x : Option Nat} (hd : decode y.2.1 pc = .ok (.areturn, 1)) (hr : ∃ n, y.2.2.2.1 = some (.object n)) (hc : c ≤ mc) (hs : s ≤ ms) (hp : P (some (va_rf x)) h) : ab_T y d mc ms c s pc lo [va_rf x] h P := by
  intro p l e R σ m args below meth cd D A Q C ws H locs ls cst hR hP hD hS hL hT hK
  obtain ⟨c1, s1, rfl, g1, hT⟩ := hT
  have hT : s1 = [] := hT
  subst hT
  refine W.widen hc hs (hK (some (va_rf x)) h ws H locs ls pc (some c1) hp ab_P.rf hR hP hD hS ⟨_, rfl, g1⟩ ?_ hL.1)
  cases x <;> exact ⟨hd, hr⟩
theorem ab_retV (hd : decode y.2.1 pc = .ok (.return_, 1)) (hr : y.2.2.2.1 = none) (hc : c ≤ mc) (hs : s ≤ ms) (hp : P none h) : ab_T y d mc ms c s pc lo [] h P := by
  intro p l e R σ m args below meth cd D A Q C ws H locs ls cst hR hP hD hS hL hT hK
  have hT : cst = [] := hT
  subst hT
  exact W.widen hc hs (hK none h ws H locs ls pc none hp ab_P.rf hR hP hD hS rfl (Or.inl ⟨hd, hr⟩) hL.1)
end ABR
