section KCS
/-! a list built in the class's mind, one DEED after the other -/
def kc (U : ab_HP) (N : Nat) (s : Nat → Int32) (k : Nat) (li : Nat → Nat) : Prop := cp U ∧ td U 1 N s ∧ cl U k li s ∧ ct U s ∧ ab_i U 7 4 = s 3
theorem td_hm {h w : ab_HP} (A : hm h w) {N : Nat} (hN : N ≤ 8) {s : Nat → Int32} (H : td h 1 N s) : td w 1 N s :=
  td_same hN (by rw [A.1]; exact Nat.le_refl _) (fun k => A.2.1 1 k (by omega)) (fun k => A.2.2.1 2 k (by omega) (by omega) (by omega)) (fun r h1 _ k => A.2.1 r k (by omega)) (fun _ _ => rfl) H
theorem kc_open {U : ab_HP} {N : Nat} {s : Nat → Int32} (hc : cp U) (ht : tw N s) (hd : td U 1 N s) (li : Nat → Nat) : ∃ W, f_X10_open 7 (some 1) U = some W ∧ kc W N s 0 li ∧ hm U W ∧ ∀ a b, ¬ (a = 7 ∧ (b = 4 ∨ b = 5)) → ab_i W a b = ab_i U a b := by
  have i0 : ∀ a b, ¬ (a = 7 ∧ (b = 4 ∨ b = 5)) → ab_i (ab_ip (ab_ip (ab_rp U 7 3 (some 1)) 7 4 (ab_i U 1 4)) 7 5 0) a b = ab_i U a b := fun a b q => by rw [hi_ip, if_neg (by omega), hi_ip, if_neg (by omega), hi_rp]
  have A : hm U (ab_ip (ab_ip (ab_rp U 7 3 (some 1)) 7 4 (ab_i U 1 4)) 7 5 0) := ⟨rfl, fun r k q => i0 r k (by omega), fun r k _ _ q => by rw [hr_ip, hr_ip, hr_rp, if_neg q], fun _ _ => rfl⟩
  have hd' := td_hm A ht.1 hd
  refine ⟨_, rfl, ⟨A.cp hc, hd', ⟨Nat.zero_le _, ?_, fun i hi => absurd hi (Nat.not_lt_zero _)⟩, ⟨?_, hd'.1.2.2.2.2.1, hd'.1.2.2.2.2.2.1⟩, ?_⟩, A, i0⟩
  · rw [hi_ip, if_pos ⟨rfl, rfl⟩]; rfl
  · rw [hr_ip, hr_ip, hr_rp, if_pos ⟨rfl, rfl⟩]
  · rw [hi_ip, if_neg (by omega), hi_ip, if_pos ⟨rfl, rfl⟩]; exact hd.1.2.2.2.1
theorem kc_add {U : ab_HP} {N k : Nat} {s : Nat → Int32} {li : Nat → Nat} (ht : tw N s) (H : kc U N s k li) (hk : k < 16) (hx : li k < N) : ∃ r W, f_X9_deedAt 1 (nI (li k)) U = some (some r) ∧ f_X10_add 7 (some r) U = some W ∧ kc W N s (k + 1) li ∧ hm U W ∧ ∀ a b, ¬ (a = 7 ∧ b = 5) → ab_i W a b = ab_i U a b := by
  obtain ⟨hc, hd, hl, hct, h4⟩ := H
  have hN := ht.1
  obtain ⟨r, q1, q2, q3⟩ := hd.2 (li k) hx
  have e1 : f_X9_deedAt 1 (nI (li k)) U = some (some r) := by
    rw [c_deedAt9 hN (hd.1.1.trans ht.2.1) (hc 1 0 2 rfl) shp_2 hx]
    exact congrArg some q1
  have b2 : ab_in (nI k) 16 = true := in_nI (by omega) (by decide)
  have c2 : (nI k).toNatClampNeg = k := nI_clamp (by omega)
  have h2 : ¬ Int32.ofNat 16 ≤ nI k := nI_ge (b := 16) (by omega) (by decide)
  have i0 : ∀ a b, ¬ (a = 7 ∧ b = 5) → ab_i (ab_ip (ab_rp U 8 k (some r)) 7 5 (nI (k + 1))) a b = ab_i U a b := fun a b q => by rw [hi_ip, if_neg q, hi_rp]
  have r0 : ∀ a b, a ≠ 8 → ab_r (ab_ip (ab_rp U 8 k (some r)) 7 5 (nI (k + 1))) a b = ab_r U a b := fun a b q => by rw [hr_ip, hr_rp, if_neg (by omega)]
  have A : hm U (ab_ip (ab_rp U 8 k (some r)) 7 5 (nI (k + 1))) := ⟨rfl, fun a b q => i0 a b (by omega), fun a b _ q _ => r0 a b q, fun _ _ => rfl⟩
  refine ⟨r, _, e1, ?_, ⟨A.cp hc, td_hm A hN hd, ⟨by omega, ?_, ?_⟩, ⟨?_, ?_, ?_⟩, ?_⟩, A, i0⟩
  · unfold f_X10_add
    simp only [Option.bind_some, ab_let, Option.elim_some, Option.elim_none, hc 0 0 1 rfl, hc 0 1 3 rfl, hc 0 2 5 rfl, hc 0 3 7 rfl, hc 0 4 11 rfl, hc 0 5 12 rfl, hc 0 6 13 rfl, hc 0 7 14 rfl, hc 1 0 2 rfl, hc 3 0 4 rfl, hc 5 0 6 rfl, hc 7 0 8 rfl, hc 7 1 9 rfl, hc 7 2 10 rfl, shp_2, shp_4, shp_6, shp_8, shp_9, shp_10, shp_11, shp_12, shp_13, shp_14, shp_32, shp_33, shp_34, shp_35, shp_36, shp_37, shp_38, shp_39, shp_40, shp_41, shp_42, shp_43, shp_44, shp_45, shp_46, shp_47, shp_48, shp_49, hl.2.1, h2, if_false, b2, c2, if_true, hi_rp, nI_1]
  · rw [hi_ip, if_pos ⟨rfl, rfl⟩]
  · intro i hi
    by_cases g : i = k
    · subst g
      refine ⟨by omega, r, ?_, dk_heap (fun b => i0 r b (by have := q3.1; omega)) q3⟩
      rw [hr_ip, hr_rp, if_pos ⟨rfl, rfl⟩]
    · obtain ⟨g1, r', g2, g3⟩ := hl.2.2 i (by omega)
      refine ⟨g1, r', ?_, dk_heap (fun b => i0 r' b (by have := g3.1; omega)) g3⟩
      rw [hr_ip, hr_rp, if_neg (by omega)]
      exact g2
  · rw [r0 7 3 (by omega)]; exact hct.1
  · rw [i0 1 5 (by omega)]; exact hct.2.1
  · rw [i0 1 6 (by omega)]; exact hct.2.2
  · rw [i0 7 4 (by omega)]; exact h4
/-- a year gone by in mind -/
theorem kc_z {U : ab_HP} {N k : Nat} {s : Nat → Int32} {li : Nat → Nat} (hN : N ≤ 8) (H : kc U N s k li) (z : zS) : kc (z_put U z) N s k li := by
  obtain ⟨hc, hd, hl, hct, h4⟩ := H
  refine ⟨(hm_z U z).cp hc, td_hm (hm_z U z) hN hd, ⟨hl.1, hl.2.1, fun i hi => ?_⟩, hct, h4⟩
  obtain ⟨g1, r, g2, g3⟩ := hl.2.2 i hi
  exact ⟨g1, r, g2, dk_heap (fun b => z_d U z b g3.1) g3⟩
theorem nI_div {a b : Nat} (ha : a < 2 ^ 31) (hb : b < 2 ^ 31) : nI a / nI b = nI (a / b) := by
  have h := Nat.div_le_self a b
  apply Int32.toInt_inj.mp
  rw [Int32.toInt_div, nI_toInt ha, nI_toInt hb, nI_toInt (by omega), ← Int.ofNat_tdiv]
  generalize a / b = q at h ⊢
  exact n_bmod (by omega) (by omega)
theorem nI_mod {a b : Nat} (ha : a < 2 ^ 31) (hb : b < 2 ^ 31) : nI a - nI a / nI b * nI b = nI (a % b) := by
  have h := Nat.div_add_mod a b
  rw [nI_div ha hb, nI_mul, nx_sub (Nat.div_mul_le_self a b)]
  congr 1
  rw [Nat.mul_comm] at h
  omega
def nxs (z : Int32) : Int32 := z * 1103515245 + 12345
def drw (z : Int32) (b : Nat) : Nat := ((z &&& 2147483647).toNatClampNeg / 65536) % b
theorem drw_lt (z : Int32) {b : Nat} (hb : 0 < b) : drw z b < b := Nat.mod_lt _ hb
theorem drw_e (z : Int32) {b : Nat} (hb : b < 2 ^ 31) : ((z &&& (2147483647 : Int32)) / (65536 : Int32)) - ((z &&& (2147483647 : Int32)) / (65536 : Int32)) / nI b * nI b = nI (drw z b) := by
  obtain ⟨k, h1, h2, _⟩ := bt_nat (x := z &&& 2147483647) (n := 31) (by decide) (fun j j1 j2 => by
    have : j = 31 := by omega
    subst this
    rw [b_and, show bt 2147483647 31 = false by decide, Bool.and_false])
  unfold drw
  have h3 := Nat.div_le_self k 65536
  rw [h2, nI_clamp h1, n_lit 65536, nI_div h1 (by decide), nI_mod (by omega) hb]
theorem shl1 {k : Nat} (h : k ≤ 16) : (1 : Int32) <<< (nI k &&& 31) = nI (2 ^ k) := by
  have : ∀ k, k < 17 → (1 : Int32) <<< (nI k &&& 31) = nI (2 ^ k) := by decide +kernel
  exact this k (by omega)
theorem c_drawn (z : Int32) {b : Nat} (h0 : 0 < b) (hb : b < 2 ^ 31) (h : ab_HP) : f_X11_drawn z (nI b) h = some (nI (drw z b)) := by
  unfold f_X11_drawn
  rw [if_pos (show (0 : Int32) < nI b from nI_lt (a := 0) h0 hb), if_neg (nI_ne0 h0 hb), drw_e z hb]
theorem m_drawn {b : Nat} (h0 : 0 < b) (hb : b < 2 ^ 31) (h : ab_HP) : f_X12_drawn 31 (nI b) h = some (nI (drw (nxs (ab_i h 31 40)) b), ab_ip h 31 40 (nxs (ab_i h 31 40))) := by
  unfold f_X12_drawn ab_let
  dsimp only
  rw [if_neg (nI_ne0 h0 hb)]
  have e : ab_i (ab_ip h 31 40 (ab_i h 31 40 * 1103515245 + 12345)) 31 40 = nxs (ab_i h 31 40) := by rw [hi_ip, if_pos ⟨rfl, rfl⟩]; rfl
  rw [e, drw_e _ hb]
  rfl
/-! what was paid before a pair changes nothing else of it -/
def ysp (q : Int32) (y : yS) : yS := (y.1, y.2.1, q + y.2.2.1, y.2.2.2)
theorem sp_even1 (s : Nat → Int32) (li : Nat → Nat) (nails : Int32) (i : Nat) (q : Int32) (y : yS) : y_even1 s li nails i (ysp q y) = ysp q (y_even1 s li nails i y) := by
  obtain ⟨so, c, p, u, F, C, A, B⟩ := y
  show y_even1 s li nails i (so, c, q + p, u, F, C, A, B) = ysp q (y_even1 s li nails i (so, c, p, u, F, C, A, B))
  rw [y_even1, y_even1]
  by_cases hm : t_mayb s (li i) so c = true
  · rw [if_pos hm, if_pos hm]
    by_cases hq : y_nb nails i = true ∧ t_price s i ≤ c - t_cost s (li i)
    · rw [if_pos hq, if_pos hq]
      simp only [ysp, Int32.add_assoc]
    · rw [if_neg hq, if_neg hq]
      rfl
  · rw [if_neg hm, if_neg hm]
    rfl
theorem sp_evens (s : Nat → Int32) (li : Nat → Nat) (nails : Int32) (q : Int32) (y : yS) : ∀ n, y_evens s li nails n (ysp q y) = ysp q (y_evens s li nails n y)
  | 0 => rfl
  | n + 1 => by rw [y_evens, y_evens, sp_evens s li nails q y n, sp_even1]
theorem sp_undo (s : Nat → Int32) (li : Nat → Nat) (i : Nat) (how q : Int32) (y : yS) : y_undo s li i how (ysp q y) = ysp q (y_undo s li i how y) := rfl
theorem sp_fallp (s : Nat → Int32) (li : Nat → Nat) (q : Int32) : ∀ (k : Nat) (m : Bool) (y : yS), (y_fallp s li k m (ysp q y)).1 = (y_fallp s li k m y).1 ∧ (y_fallp s li k m (ysp q y)).2 = ysp q (y_fallp s li k m y).2
  | 0, _, _ => ⟨rfl, rfl⟩
  | k + 1, m, y => by
    rw [y_fallp, y_fallp]
    by_cases h : y_hold y.2.2.2.2.1 k = true ∧ t_lack s (li k) y.1 ≠ 0
    · rw [if_pos h, if_pos (show y_hold (ysp q y).2.2.2.2.1 k = true ∧ t_lack s (li k) (ysp q y).1 ≠ 0 from h), sp_undo]
      exact sp_fallp s li q k true _
    · rw [if_neg h, if_neg (show ¬ (y_hold (ysp q y).2.2.2.2.1 k = true ∧ t_lack s (li k) (ysp q y).1 ≠ 0) from h)]
      exact sp_fallp s li q k m y
theorem sp_falls (s : Nat → Int32) (li : Nat → Nat) (n : Nat) (q : Int32) : ∀ (f : Nat) (y : yS), y_falls s li n f (ysp q y) = ysp q (y_falls s li n f y)
  | 0, _ => rfl
  | f + 1, y => by
    have h := sp_fallp s li q n false y
    rw [y_falls, y_falls, h.1, h.2]
    split
    · exact sp_falls s li n q f _
    · rfl
theorem sp_odd1 (s : Nat → Int32) (li : Nat → Nat) (n i : Nat) (q : Int32) (y : yS) : y_odd1 s li n i (ysp q y) = ysp q (y_odd1 s li n i y) := by
  unfold y_odd1
  by_cases h1 : y.2.2.2.2.1 i = 1
  · rw [if_pos h1, if_pos (show (ysp q y).2.2.2.2.1 i = 1 from h1)]
    by_cases h2 : s 3 = 1 ∧ y_some (y_heldq s li y.2.2.2.2.1 y.2.2.2.2.2.1 i) (n - (i + 1)) (i + 1) = true
    · rw [if_pos h2, if_pos (show s 3 = 1 ∧ y_some (y_heldq s li (ysp q y).2.2.2.2.1 (ysp q y).2.2.2.2.2.1 i) (n - (i + 1)) (i + 1) = true from h2)]
      rfl
    · rw [if_neg h2, if_neg (show ¬ (s 3 = 1 ∧ y_some (y_heldq s li (ysp q y).2.2.2.2.1 (ysp q y).2.2.2.2.2.1 i) (n - (i + 1)) (i + 1) = true) from h2), sp_undo]
      by_cases h3 : s 3 = 0
      · rw [if_pos h3, if_pos h3]
        exact sp_falls s li n q _ _
      · rw [if_neg h3, if_neg h3]
  · rw [if_neg h1, if_neg (show ¬ (ysp q y).2.2.2.2.1 i = 1 from h1)]
theorem sp_odds (s : Nat → Int32) (li : Nat → Nat) (n : Nat) (q : Int32) : ∀ (k : Nat) (y : yS), y_odds s li n k (ysp q y) = ysp q (y_odds s li n k y)
  | 0, _ => rfl
  | k + 1, y => by rw [y_odds, y_odds, sp_odd1, sp_odds s li n q k]
theorem sp_pair (s : Nat → Int32) (li : Nat → Nat) (n : Nat) (nails q : Int32) (y : yS) : y_pair s li n nails (ysp q y) = ysp q (y_pair s li n nails y) := by
  unfold y_pair
  rw [sp_evens, sp_odds]
/-- a pair that goes on behind others: MARKS, COINS and how many were undone -/
theorem sp_zr {n : Nat} (hn : n ≤ 16) (s : Nat → Int32) (li : Nat → Nat) (nails m c p u : Int32) (F C A B MD LS : Nat → Int32) : ∃ y, y_pair s li n nails (m, c, p, u, F, C, A, B) = ysp p y ∧ y = y_pair s li n nails (m, c, 0, u, F, C, A, B) ∧ zr n 0 u (z_odds s li (s 3) n n (z_evens s li nails n (m, c, 0, 0, 0, 0, 0, 0, MD, LS))) y := by
  refine ⟨_, ?_, rfl, zr_pair hn s li nails u (zr_0 m c u F C A B MD LS n)⟩
  rw [← sp_pair]
  congr 1
  show _ = (m, c, p + 0, u, F, C, A, B)
  rw [Int32.add_zero]
end KCS
