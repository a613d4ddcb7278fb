section MPP
theorem mok2 {N k a b : Nat} (hk : k < 4) (ha : a < N) (hb : b < N) : mok N (k, 2, a, b) = true := by
  unfold mok
  simp [hk, ha, hb]
theorem mok1 {N k a : Nat} (hk : k < 4) (ha : a < N) (b : Nat) : mok N (k, 1, a, b) = true := by
  unfold mok
  simp [hk, ha]
section
variable {g : ab_HP} {N d : Nat} {self : Nat → Int32 → Int32 → Int32 → Int32 → ab_HP → Option ab_HP} {i1 i2 so c : Int32} {stp : pST → mvT → pST}
theorem m_tryA (body : ∀ m, mok N m = true → m.1 < 2 ^ m.2.1 → ∀ V st f, mpi g V d st → ∃ X, f_X12_tries_l3 self 31 (f + 1) i1 i2 (nI m.2.1) (nI m.2.2.1) (nI m.2.2.2) so c (nI m.1) V = f_X12_tries_l3 self 31 f i1 i2 (nI m.2.1) (nI m.2.2.1) (nI m.2.2.2) so c (nI (m.1 + 1)) X ∧ mpi g X d (stp st m)) {many a b n : Nat} (ok : ∀ k, k < 2 ^ many → mok N (k, many, a, b) = true) (h2 : many ≤ 2) (hn : n = 2 ^ many) {im ia ib : Int32} (em : nI many = im) (ea : nI a = ia) (eb : nI b = ib) {V : ab_HP} {st : pST} (M : mpi g V d st) : ∃ X, f_X12_tries self 31 i1 i2 im ia ib so c V = some X ∧ mpi g X d ((mset many a b n 0).foldl stp st) := by
  subst em ea eb hn
  have p4 : 2 ^ many ≤ 4 := Nat.pow_le_pow_right (n := 2) (by decide) h2
  obtain ⟨X, x1, x2⟩ := m_try body ok h2 (2 ^ many) 0 V st (by omega) M 1000 (by omega)
  rw [show nI 0 = (0 : Int32) from rfl] at x1
  exact ⟨X, by rw [f_X12_tries]; exact x1, x2⟩
theorem m_p64 (ht : tw N (ab_i g 32)) (body : ∀ m, mok N m = true → m.1 < 2 ^ m.2.1 → ∀ V st f, mpi g V d st → ∃ X, f_X12_tries_l3 self 31 (f + 1) i1 i2 (nI m.2.1) (nI m.2.2.1) (nI m.2.2.2) so c (nI m.1) V = f_X12_tries_l3 self 31 f i1 i2 (nI m.2.1) (nI m.2.2.1) (nI m.2.2.2) so c (nI (m.1 + 1)) X ∧ mpi g X d (stp st m)) (k49 : Int32 → Int32 → Int32 → Int32 → Int32 → ab_HP → Option ab_HP) {a : Nat} (ha : a < N) : ∀ (n b : Nat) (V : ab_HP) (st : pST), b + n = N → mpi g V d st → ∀ f, n < f → ∃ X, f_X12_plans_l64 k49 self 31 f i1 i2 so c (nI a) (nI b) V = k49 i1 i2 so c (nI (a + 1)) X ∧ mpi g X d ((mv2b a n b).foldl stp st)
  | 0, b, V, st, e, M, f + 1, _ => by
    have hN := ht.1
    have hp := M.2.1
    have e6 : ab_i V 32 6 = nI N := by rw [M.1.s32]; exact ht.2.1
    rw [f_X12_plans_l64]
    simp only [Option.bind_some, ab_let, Option.elim_some, Option.elim_none, hp 0, mp_0, mp_1, mp_2, mp_3, mp_4, mp_5, mp_6, mp_7, mp_8, mp_16, mp_19, mp_20, mp_21, mp_22, mp_23, mp_32, mp_39, shp_2, shp_4, shp_6, shp_8, shp_9, shp_10, shp_11, shp_12, shp_13, shp_14, shp_32, shp_33, shp_34, shp_35, shp_36, shp_37, shp_38, shp_39, shp_40, shp_41, shp_42, shp_43, shp_44, shp_45, shp_46, shp_47, shp_48, shp_49, in_l0, in_l1, in_l2, in_l3, in_l4, in_l5, in_l6, lit_c0, lit_c1, lit_c2, lit_c3, lit_c4, lit_c5, lit_c6, Nat.reduceLT, decide_true, if_true, e6]
    rw [if_pos (nI_le (by omega) (by omega)), nI_1]
    exact ⟨V, rfl, M⟩
  | n + 1, b, V, st, e, M, f + 1, hf => by
    have hN := ht.1
    have hp := M.2.1
    have e6 : ab_i V 32 6 = nI N := by rw [M.1.s32]; exact ht.2.1
    have q : ¬ nI N ≤ nI b := nI_ge (by omega) (by omega)
    rw [f_X12_plans_l64, mv2b]
    simp only [Option.bind_some, ab_let, Option.elim_some, Option.elim_none, hp 0, mp_0, mp_1, mp_2, mp_3, mp_4, mp_5, mp_6, mp_7, mp_8, mp_16, mp_19, mp_20, mp_21, mp_22, mp_23, mp_32, mp_39, shp_2, shp_4, shp_6, shp_8, shp_9, shp_10, shp_11, shp_12, shp_13, shp_14, shp_32, shp_33, shp_34, shp_35, shp_36, shp_37, shp_38, shp_39, shp_40, shp_41, shp_42, shp_43, shp_44, shp_45, shp_46, shp_47, shp_48, shp_49, in_l0, in_l1, in_l2, in_l3, in_l4, in_l5, in_l6, lit_c0, lit_c1, lit_c2, lit_c3, lit_c4, lit_c5, lit_c6, Nat.reduceLT, decide_true, if_true, e6, q, if_false, nI_eq (show a < 2 ^ 31 by omega) (show b < 2 ^ 31 by omega), nI_1]
    by_cases e2 : a = b
    · simp only [e2, if_true, List.nil_append]
      subst e2
      exact m_p64 ht body k49 ha n (a + 1) V st (by omega) M f (by omega)
    · simp only [e2, if_false]
      obtain ⟨X, x1, x2⟩ := m_tryA body (many := 2) (a := a) (b := b) (n := 4) (fun k hk => mok2 (by omega) ha (by omega)) (by decide) rfl (im := 2) rfl rfl rfl M
      obtain ⟨Y, y1, y2⟩ := m_p64 ht body k49 ha n (b + 1) X _ (by omega) x2 f (by omega)
      simp only [x1, Option.bind_some]
      exact ⟨Y, y1, by rw [List.foldl_append]; exact y2⟩
  | _, _, _, _, _, _, 0, h => absurd h (Nat.not_lt_zero _)
theorem m_p49 (ht : tw N (ab_i g 32)) (body : ∀ m, mok N m = true → m.1 < 2 ^ m.2.1 → ∀ V st f, mpi g V d st → ∃ X, f_X12_tries_l3 self 31 (f + 1) i1 i2 (nI m.2.1) (nI m.2.2.1) (nI m.2.2.2) so c (nI m.1) V = f_X12_tries_l3 self 31 f i1 i2 (nI m.2.1) (nI m.2.2.1) (nI m.2.2.2) so c (nI (m.1 + 1)) X ∧ mpi g X d (stp st m)) : ∀ (n a : Nat) (V : ab_HP) (st : pST), a + n = N → mpi g V d st → ∀ f, n < f → ∃ X, f_X12_plans_l49 self 31 f i1 i2 so c (nI a) V = some X ∧ mpi g X d ((mv2 N n a).foldl stp st)
  | 0, a, V, st, e, M, f + 1, _ => by
    have hN := ht.1
    have hp := M.2.1
    have e6 : ab_i V 32 6 = nI N := by rw [M.1.s32]; exact ht.2.1
    rw [f_X12_plans_l49]
    simp only [Option.bind_some, ab_let, Option.elim_some, Option.elim_none, hp 0, mp_0, mp_1, mp_2, mp_3, mp_4, mp_5, mp_6, mp_7, mp_8, mp_16, mp_19, mp_20, mp_21, mp_22, mp_23, mp_32, mp_39, shp_2, shp_4, shp_6, shp_8, shp_9, shp_10, shp_11, shp_12, shp_13, shp_14, shp_32, shp_33, shp_34, shp_35, shp_36, shp_37, shp_38, shp_39, shp_40, shp_41, shp_42, shp_43, shp_44, shp_45, shp_46, shp_47, shp_48, shp_49, in_l0, in_l1, in_l2, in_l3, in_l4, in_l5, in_l6, lit_c0, lit_c1, lit_c2, lit_c3, lit_c4, lit_c5, lit_c6, Nat.reduceLT, decide_true, if_true, e6]
    rw [if_pos (nI_le (by omega) (by omega))]
    exact ⟨V, rfl, M⟩
  | n + 1, a, V, st, e, M, f + 1, hf => by
    have hN := ht.1
    have hp := M.2.1
    have e6 : ab_i V 32 6 = nI N := by rw [M.1.s32]; exact ht.2.1
    have q : ¬ nI N ≤ nI a := nI_ge (by omega) (by omega)
    obtain ⟨X, x1, x2⟩ := m_p64 ht body (f_X12_plans_l49 self 31 f) (show a < N by omega) N 0 V st (by omega) M 1000 (by omega)
    rw [show nI 0 = (0 : Int32) from rfl] at x1
    obtain ⟨Y, y1, y2⟩ := m_p49 ht body n (a + 1) X _ (by omega) x2 f (by omega)
    rw [f_X12_plans_l49, mv2]
    simp only [Option.bind_some, ab_let, Option.elim_some, Option.elim_none, hp 0, mp_0, mp_1, mp_2, mp_3, mp_4, mp_5, mp_6, mp_7, mp_8, mp_16, mp_19, mp_20, mp_21, mp_22, mp_23, mp_32, mp_39, shp_2, shp_4, shp_6, shp_8, shp_9, shp_10, shp_11, shp_12, shp_13, shp_14, shp_32, shp_33, shp_34, shp_35, shp_36, shp_37, shp_38, shp_39, shp_40, shp_41, shp_42, shp_43, shp_44, shp_45, shp_46, shp_47, shp_48, shp_49, in_l0, in_l1, in_l2, in_l3, in_l4, in_l5, in_l6, lit_c0, lit_c1, lit_c2, lit_c3, lit_c4, lit_c5, lit_c6, Nat.reduceLT, decide_true, if_true, e6, q, if_false, x1]
    exact ⟨Y, y1, by rw [List.foldl_append]; exact y2⟩
  | _, _, _, _, _, _, 0, h => absurd h (Nat.not_lt_zero _)
theorem m_p15 (ht : tw N (ab_i g 32)) (body : ∀ m, mok N m = true → m.1 < 2 ^ m.2.1 → ∀ V st f, mpi g V d st → ∃ X, f_X12_tries_l3 self 31 (f + 1) i1 i2 (nI m.2.1) (nI m.2.2.1) (nI m.2.2.2) so c (nI m.1) V = f_X12_tries_l3 self 31 f i1 i2 (nI m.2.1) (nI m.2.2.1) (nI m.2.2.2) so c (nI (m.1 + 1)) X ∧ mpi g X d (stp st m)) : ∀ (n a : Nat) (V : ab_HP) (st : pST), a + n = N → mpi g V d st → ∀ f, n < f → ∃ X, f_X12_plans_l15 self 31 f i1 i2 so c (nI a) V = some X ∧ mpi g X d ((mv1 n a ++ mv2 N N 0).foldl stp st)
  | 0, a, V, st, e, M, f + 1, _ => by
    have hN := ht.1
    have hp := M.2.1
    have e6 : ab_i V 32 6 = nI N := by rw [M.1.s32]; exact ht.2.1
    obtain ⟨X, x1, x2⟩ := m_p49 ht body N 0 V st (by omega) M 1000 (by omega)
    rw [show nI 0 = (0 : Int32) from rfl] at x1
    rw [f_X12_plans_l15]
    simp only [Option.bind_some, ab_let, Option.elim_some, Option.elim_none, hp 0, mp_0, mp_1, mp_2, mp_3, mp_4, mp_5, mp_6, mp_7, mp_8, mp_16, mp_19, mp_20, mp_21, mp_22, mp_23, mp_32, mp_39, shp_2, shp_4, shp_6, shp_8, shp_9, shp_10, shp_11, shp_12, shp_13, shp_14, shp_32, shp_33, shp_34, shp_35, shp_36, shp_37, shp_38, shp_39, shp_40, shp_41, shp_42, shp_43, shp_44, shp_45, shp_46, shp_47, shp_48, shp_49, in_l0, in_l1, in_l2, in_l3, in_l4, in_l5, in_l6, lit_c0, lit_c1, lit_c2, lit_c3, lit_c4, lit_c5, lit_c6, Nat.reduceLT, decide_true, if_true, e6]
    rw [if_pos (nI_le (by omega) (by omega))]
    exact ⟨X, x1, x2⟩
  | n + 1, a, V, st, e, M, f + 1, hf => by
    have hN := ht.1
    have hp := M.2.1
    have e6 : ab_i V 32 6 = nI N := by rw [M.1.s32]; exact ht.2.1
    have q : ¬ nI N ≤ nI a := nI_ge (by omega) (by omega)
    obtain ⟨X, x1, x2⟩ := m_tryA body (many := 1) (a := a) (b := 0) (n := 2) (fun k hk => mok1 (by omega) (show a < N by omega) 0) (by decide) rfl (im := 1) rfl rfl (ib := 0) rfl M
    obtain ⟨Y, y1, y2⟩ := m_p15 ht body n (a + 1) X _ (by omega) x2 f (by omega)
    rw [f_X12_plans_l15, mv1]
    simp only [Option.bind_some, ab_let, Option.elim_some, Option.elim_none, hp 0, mp_0, mp_1, mp_2, mp_3, mp_4, mp_5, mp_6, mp_7, mp_8, mp_16, mp_19, mp_20, mp_21, mp_22, mp_23, mp_32, mp_39, shp_2, shp_4, shp_6, shp_8, shp_9, shp_10, shp_11, shp_12, shp_13, shp_14, shp_32, shp_33, shp_34, shp_35, shp_36, shp_37, shp_38, shp_39, shp_40, shp_41, shp_42, shp_43, shp_44, shp_45, shp_46, shp_47, shp_48, shp_49, in_l0, in_l1, in_l2, in_l3, in_l4, in_l5, in_l6, lit_c0, lit_c1, lit_c2, lit_c3, lit_c4, lit_c5, lit_c6, Nat.reduceLT, decide_true, if_true, e6, q, if_false, x1, nI_1]
    exact ⟨Y, y1, by rw [List.append_assoc, List.foldl_append]; exact y2⟩
  | _, _, _, _, _, _, 0, h => absurd h (Nat.not_lt_zero _)
theorem m_pla (ht : tw N (ab_i g 32)) (body : ∀ m, mok N m = true → m.1 < 2 ^ m.2.1 → ∀ V st f, mpi g V d st → ∃ X, f_X12_tries_l3 self 31 (f + 1) i1 i2 (nI m.2.1) (nI m.2.2.1) (nI m.2.2.2) so c (nI m.1) V = f_X12_tries_l3 self 31 f i1 i2 (nI m.2.1) (nI m.2.2.1) (nI m.2.2.2) so c (nI (m.1 + 1)) X ∧ mpi g X d (stp st m)) {V : ab_HP} {st : pST} (M : mpi g V d st) : ∃ X, f_X12_plans self 31 i1 i2 so c V = some X ∧ mpi g X d ((mvl N).foldl stp st) := by
  have hN := ht.1
  obtain ⟨X, x1, x2⟩ := m_tryA body (many := 0) (a := 0) (b := 0) (n := 1) (fun k hk => by
    have : k = 0 := by omega
    subst this
    rfl) (by decide) rfl (im := 0) rfl (ia := 0) rfl (ib := 0) rfl M
  obtain ⟨Y, y1, y2⟩ := m_p15 ht body N 0 X _ (by omega) x2 1000 (by omega)
  rw [show nI 0 = (0 : Int32) from rfl] at y1
  unfold f_X12_plans mvl
  rw [x1, List.foldl_append]
  exact ⟨Y, y1, y2⟩
end
end MPP
