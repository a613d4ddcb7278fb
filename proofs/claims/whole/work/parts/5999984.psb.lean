section PSB
section
variable {U V : ab_HP} {d m p : Nat} {el : Nat → Int32}
theorem s_any (H : t2 U V d m el) (hp : p < 300) (hs : (bStmt el m p).1 = true) (S : svs el m p V) : doS U V d m p el := by
  by_cases a1 : cS el m 99 p = true
  · exact s_coin H hp hs S a1
  by_cases a2 : cS el m 100 p = true
  · exact s_deed H hp hs S a2
  by_cases a3 : cS el m 108 p = true
  · exact s_law H hp hs S a3
  by_cases a4 : cS el m 109 p = true
  · exact s_mark H hp hs S a4
  by_cases a5 : cS el m 110 p = true
  · exact s_nail H hp hs S a5
  exfalso
  unfold bStmt at hs
  rw [if_neg a1, if_neg a2, if_neg a3, if_neg a4, if_neg a5] at hs
  exact absurd hs Bool.false_ne_true
def chn (el : Nat → Int32) (m : Nat) : Nat → Nat → Prop
  | 0, p => m ≤ p
  | c + 1, p => (bStmt el m p).1 = true ∧ chn el m c (bStmt el m p).2
theorem chn_le (el : Nat → Int32) (m : Nat) : ∀ (c p : Nat), chn el m (c + 1) p → p + 2 * (c + 1) ≤ m
  | 0, p, h => by
    have := (bStmt_r el m p).2.2 h.1
    omega
  | c + 1, p, h => by
    have := (bStmt_r el m p).2.2 h.1
    have := chn_le el m c _ h.2
    omega
theorem ps1_chn (el : Nat → Int32) (m : Nat) : ∀ (f n p r : Nat), (p < m ∨ (n = 0 ∧ p = 0)) → m + 1 ≤ p + f → ps1 el m f n p = (true, r) → ∃ c, r = n + (c + 1) ∧ chn el m (c + 1) p
  | 0, n, p, r, h1, h2, _ => by exfalso; omega
  | f + 1, n, p, r, h1, h2, h3 => by
    rw [ps1] at h3
    have br := bStmt_r el m p
    by_cases a : (bStmt el m p).1 = true
    · have b3 := br.2.2 a
      rw [if_pos a] at h3
      by_cases b : (bStmt el m p).2 < m
      · rw [if_pos b] at h3
        obtain ⟨c, c1, c2⟩ := ps1_chn el m f (n + 1) _ r (Or.inl b) (by omega) h3
        exact ⟨c + 1, by omega, a, c2⟩
      · rw [if_neg b] at h3
        exact ⟨0, (congrArg Prod.snd h3).symm, a, show m ≤ _ by omega⟩
    · rw [if_neg a] at h3
      exact absurd (congrArg Prod.fst h3) Bool.false_ne_true
theorem m2k {p : Nat} (hp : p ≤ 1000) : (-2000 : Int32) - nI p ≤ 0 ∧ (-1000 : Int32) - nI p ≤ 0 := by
  have e1 : (-2000 : Int32).toInt = -2000 := by decide
  have e2 : (-1000 : Int32).toInt = -1000 := by decide
  have e3 := nI_toInt (n := p) (by omega)
  constructor
  · rw [n_le, n_sub (by rw [e1, e3]; omega) (by rw [e1, e3]; omega), e1, e3, l_int0]; omega
  · rw [n_le, n_sub (by rw [e2, e3]; omega) (by rw [e2, e3]; omega), e2, e3, l_int0]; omega
theorem s_all (n : Nat) (i3 : Int32) (hn : n ≤ 100) : ∀ (c j p : Nat) (U V : ab_HP), t2 U V d m el → chn el m c p → p ≤ m → ab_i V 31 11 = nI p → j + c = n → ∀ F G, c < F → c < G → ∃ W X, cfr U W ∧ mfr V X ∧ ((t2 W X d m el ∧ f_X9_read_l54 5 F (some (15 + 2 * d)) (nI n) (nI p) (nI j) U = some (nI n, W) ∧ f_X12_town_l103 31 G i3 V = f_X12_town_l154 31 1000 i3 0 X) ∨ ∃ v, v ≤ 0 ∧ f_X9_read_l54 5 F (some (15 + 2 * d)) (nI n) (nI p) (nI j) U = some (v, W) ∧ f_X12_town_l103 31 G i3 V = some (v, X))
  | 0, j, p, U, V, H, hc, hpm, h11, e, F + 1, G + 1, _, _ => by
    have hm := H.1.2.2.1
    have hc : m ≤ p := hc
    have e : j = n := by omega
    subst e
    refine ⟨U, V, cfr_refl _, mfr_refl _, Or.inl ⟨H, ?_, ?_⟩⟩
    · rw [f_X9_read_l54, if_pos (nI_le (Nat.le_refl _) (by omega))]
    · rw [f_X12_town_l103, H.2.1.2.2.2.2.1, h11, if_pos (nI_le hc (by omega))]
  | c + 1, j, p, U, V, H, hc, hpm, h11, e, F + 1, G + 1, hF, hG => by
    have hm := H.1.2.2.1
    have br := (bStmt_r el m p).2.2 hc.1
    obtain ⟨V1, a1, a2, a3, a4⟩ := m_stmt H.2.1 h11 (by omega)
    obtain ⟨b, W, X, d1, d2, d3, d4, d5, d6⟩ := s_any (H.pfr a2) (by omega) hc.1 (a4 hc.1)
    have mh : mhv el m p = el p := if_pos (by omega)
    have cl : f_X9_read_l54 5 (F + 1) (some (15 + 2 * d)) (nI n) (nI p) (nI j) U = (if bI b = 0 then some (((-2000 : Int32) - nI p), W) else ((f_X9_behindStatement (some (15 + 2 * d)) (nI p) W).bind fun w12 => f_X9_read_l54 5 F (some (15 + 2 * d)) (nI n) w12 (nI j + (1 : Int32)) W)) := by
      rw [f_X9_read_l54, if_neg (nI_ge (by omega) (by omega)), d1, Option.bind_some]
    have ml : f_X12_town_l103 31 (G + 1) i3 V = (if bI b = 0 then some (((-2000 : Int32) - nI p), X) else f_X12_town_l103 31 G i3 X) := by
      rw [f_X12_town_l103, H.2.1.2.2.2.2.1, h11, if_neg (nI_ge (by omega) (by omega)), m_here H.2.1 h11 (by omega), Option.bind_some, a1, Option.bind_some, mh, d2, Option.bind_some]
    rw [cl, ml]
    cases b
    · rw [if_pos bI_f, if_pos bI_f]
      exact ⟨W, X, d3, a2.m.trans d4, Or.inr ⟨_, (m2k (by omega)).1, rfl, rfl⟩⟩
    · rw [if_neg (by rw [bI_t]; exact one_n0), if_neg (by rw [bI_t]; exact one_n0)]
      have K := d6 rfl
      rw [c_bStmt K.1 (by omega), Option.bind_some, show rE (bStmt el m p) = nI (bStmt el m p).2 by unfold rE; rw [if_pos hc.1], nI_1]
      obtain ⟨W2, X2, w1, w2, w3⟩ := s_all n i3 hn c (j + 1) (bStmt el m p).2 W X K hc.2 br.2 (d5.trans a3) (by omega) F G (by omega) (by omega)
      exact ⟨W2, X2, d3.trans w1, (a2.m.trans d4).trans w2, w3⟩
  | _, _, _, _, _, _, _, _, _, _, 0, _, h, _ => absurd h (Nat.not_lt_zero _)
  | _, _, _, _, _, _, _, _, _, _, _, 0, _, h => absurd h (Nat.not_lt_zero _)
end
/-- what a town that was not accepted leaves behind -/
theorem gr_fault {h g h1 g1 : ab_HP} (H : gr h g) (A : h.1 ≤ h1.1) (ei : ∀ r k, r ≠ 5 → r < h.1 → ab_i h1 r k = ab_i h r k) (er : ∀ r k, r ≠ 6 → r < h.1 → ab_r h1 r k = ab_r h r k) (gi : ∀ r k, r = 32 ∨ r = 33 ∨ (35 ≤ r ∧ r ≤ 40) ∨ (r = 31 ∧ k = 9) → ab_i g1 r k = ab_i g r k) (gp : ∀ r k, ab_r g1 r k = ab_r g r k) : gr h1 g1 := by
  have h50 := H.2.2.1
  obtain ⟨N, ht, hd⟩ := H.2.2.2.1
  refine gr_town H A (fun r k q1 q2 q3 q4 => er r k q2 (by omega)) (fun r k q1 q2 => ei r k (by omega) (by omega)) (ei 0 9 (by decide) (by omega)) (fun k => by rw [gp]; exact H.2.1 k) (gi 31 9 (by omega)) (fun k => gi 33 k (by omega)) (fun r q1 q2 k => gi r k (by omega)) (fun k _ => gi 32 k (by omega)) (ei 1 1 (by decide) (by omega)) ?_ ?_ ?_ ?_ ?_ ?_ ?_ ?_ ?_ ?_
  · rw [ei 1 2 (by decide) (by omega), gi 32 0 (by omega)]; exact hd.1.2.1
  · rw [ei 1 3 (by decide) (by omega), gi 32 1 (by omega)]; exact hd.1.2.2.1
  · rw [ei 1 4 (by decide) (by omega), gi 32 3 (by omega)]; exact hd.1.2.2.2.1
  · rw [ei 1 5 (by decide) (by omega), gi 32 4 (by omega)]; exact hd.1.2.2.2.2.1
  · rw [ei 1 6 (by decide) (by omega), gi 32 5 (by omega)]; exact hd.1.2.2.2.2.2.1
  · rw [ei 1 7 (by decide) (by omega), gi 32 2 (by omega)]; exact hd.1.2.2.2.2.2.2
  · rw [gi 32 0 (by omega)]; exact ht.2.2.1
  · rw [gi 32 1 (by omega)]; exact ht.2.2.2.1
  · rw [gi 32 3 (by omega)]; exact ht.2.2.2.2.1
  · rw [gi 32 4 (by omega)]; exact ht.2.2.2.2.2.1
end PSB
