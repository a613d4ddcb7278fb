section RELO
theorem zr_evens {u0 : Int32} (s : Nat → Int32) (li : Nat → Nat) (nails : Int32) {n : Nat} (hn : n ≤ 16) {z : zS} {y : yS} (H : zr 0 n u0 z y) : ∀ i, i ≤ n → zr i n u0 (z_evens s li nails i z) (y_evens s li nails i y)
  | 0, _ => H
  | i + 1, hi => zr_even1 (by omega) (by omega) s li nails (zr_evens s li nails hn H i (by omega))
/-- the place that the odd year has come to is undone -/
theorem zr_undo {n i : Nat} (hn : n ≤ 16) (hi : i < n) {u0 : Int32} {z : zS} {y : yS} (s : Nat → Int32) (li : Nat → Nat) (H : zr n (i + 1) u0 z y) (h1 : y.2.2.2.2.1 i = 1) : zr n i u0 (z_undo s li i z) (y_undo s li i 1 y) := by
  obtain ⟨m, c, p, dn, un, nl, fm, fl, MD, LS⟩ := z
  obtain ⟨so, c', p', u, F, C, A, B⟩ := y
  obtain ⟨⟨e1, e2, e3, e4⟩, hb, hf⟩ := H
  simp only at e1 e2 e3 e4 hb hf h1
  subst e1 e2 e3
  have hi32 : i < 32 := by omega
  have bi := (hb i hi32).2.2.1
  have bi : bt un i = false := by rw [bi]; simp [zf, h1]
  have fi := (hf i hi).2.1 (by rw [h1]; decide)
  refine ⟨⟨?_, ?_, rfl, ?_⟩, ?_, ?_⟩
  · show (m &&& (MD i ^^^ (-1))) ||| LS i = (m &&& (C i ^^^ (-1))) ||| A i
    rw [fi.1, fi.2, zm_eq]
  · exact zmin_eq _
  · show u + 1 = u0 + nI (fb_ct (bt (un ||| pbit i)) 32)
    rw [zc_or hi32 bi, e4, nI_succ, Int32.add_assoc]
  · intro q hq
    have hbq := hb q hq
    show bt dn q = (decide (q < n) && !zf (upd F i 1) q 0) ∧ bt fm q = (decide (q < n) && (zf (upd F i 1) q 2 || zf (upd F i 1) q 3 || zf (upd F i 1) q 5)) ∧ bt (un ||| pbit i) q = (decide (q < n) && (zf (upd F i 1) q 5 || (zf (upd F i 1) q 1 && decide (i ≤ q)))) ∧ bt fl q = (decide (q < n) && zf (upd F i 1) q 5) ∧ (n ≤ q → bt nl q = false)
    simp only [zf_upd, bt_orp _ hi32 hq]
    by_cases e : q = i
    · subst e
      simp only [if_true]
      have e0 : zf F q 0 = false := by simp [zf, h1]
      have e2 : zf F q 2 = false := by simp [zf, h1]
      have e3 : zf F q 3 = false := by simp [zf, h1]
      have e5 : zf F q 5 = false := by simp [zf, h1]
      rw [e0, e2, e3, e5] at hbq
      refine ⟨hbq.1, hbq.2.1, ?_, hbq.2.2.2.1, hbq.2.2.2.2⟩
      simp [hi]
    · simp only [e, if_false, decide_false, Bool.or_false]
      refine ⟨hbq.1, hbq.2.1, ?_, hbq.2.2.2.1, hbq.2.2.2.2⟩
      rw [hbq.2.2.1]
      have : (i + 1 ≤ q) ↔ (i ≤ q) := by omega
      simp [this]
  · intro q hq
    have hfq := hf q hq
    show (upd F i 1 q = 0 ∨ upd F i 1 q = 1 ∨ upd F i 1 q = 2 ∨ upd F i 1 q = 3 ∨ upd F i 1 q = 4 ∨ upd F i 1 q = 5) ∧ (upd F i 1 q ≠ 0 → C q = MD q ||| LS q ∧ A q = LS q) ∧ (upd F i 1 q = 4 → i ≤ q) ∧ (upd F i 1 q = 2 → bt nl q = true) ∧ (upd F i 1 q = 1 ∨ upd F i 1 q = 3 ∨ upd F i 1 q = 4 → bt nl q = false)
    by_cases e : q = i
    · subst e
      simp only [upd_at]
      exact ⟨by simp, fun _ => fi, by simp, by simp, fun _ => hfq.2.2.2.2 (Or.inl h1)⟩
    · have ev : upd F i 1 q = F q := by rw [upd_e, if_neg e]
      rw [ev]
      exact ⟨hfq.1, hfq.2.1, fun h => by have := hfq.2.2.1 h; omega, hfq.2.2.2.1, hfq.2.2.2.2⟩
/-- one that stays -/
theorem zr_stay {n i : Nat} (hn : n ≤ 16) (hi : i < n) {u0 : Int32} {z : zS} {y : yS} (H : zr n (i + 1) u0 z y) (h1 : y.2.2.2.2.1 i = 1) : zr n i u0 z (y.1, y.2.1, y.2.2.1, y.2.2.2.1, upd y.2.2.2.2.1 i 4, y.2.2.2.2.2) := by
  obtain ⟨m, c, p, dn, un, nl, fm, fl, MD, LS⟩ := z
  obtain ⟨so, c', p', u, F, C, A, B⟩ := y
  obtain ⟨⟨e1, e2, e3, e4⟩, hb, hf⟩ := H
  simp only at e1 e2 e3 e4 hb hf h1
  subst e1 e2 e3
  refine ⟨⟨rfl, rfl, rfl, e4⟩, ?_, ?_⟩
  · intro q hq
    have hbq := hb q hq
    show bt dn q = (decide (q < n) && !zf (upd F i 4) q 0) ∧ bt fm q = (decide (q < n) && (zf (upd F i 4) q 2 || zf (upd F i 4) q 3 || zf (upd F i 4) q 5)) ∧ bt un q = (decide (q < n) && (zf (upd F i 4) q 5 || (zf (upd F i 4) q 1 && decide (i ≤ q)))) ∧ bt fl q = (decide (q < n) && zf (upd F i 4) q 5) ∧ (n ≤ q → bt nl q = false)
    simp only [zf_upd]
    by_cases e : q = i
    · subst e
      have e0 : zf F q 0 = false := by simp [zf, h1]
      have e1 : zf F q 1 = true := by simp [zf, h1]
      have e2 : zf F q 2 = false := by simp [zf, h1]
      have e3 : zf F q 3 = false := by simp [zf, h1]
      have e5 : zf F q 5 = false := by simp [zf, h1]
      rw [e0, e1, e2, e3, e5] at hbq
      simp only [if_true]
      refine ⟨hbq.1, hbq.2.1, ?_, hbq.2.2.2.1, hbq.2.2.2.2⟩
      rw [hbq.2.2.1]
      simp
    · simp only [e, if_false]
      refine ⟨hbq.1, hbq.2.1, ?_, hbq.2.2.2.1, hbq.2.2.2.2⟩
      rw [hbq.2.2.1]
      have : (i + 1 ≤ q) ↔ (i ≤ q) := by omega
      simp [this]
  · intro q hq
    have hfq := hf q hq
    show (upd F i 4 q = 0 ∨ upd F i 4 q = 1 ∨ upd F i 4 q = 2 ∨ upd F i 4 q = 3 ∨ upd F i 4 q = 4 ∨ upd F i 4 q = 5) ∧ (upd F i 4 q ≠ 0 → C q = MD q ||| LS q ∧ A q = LS q) ∧ (upd F i 4 q = 4 → i ≤ q) ∧ (upd F i 4 q = 2 → bt nl q = true) ∧ (upd F i 4 q = 1 ∨ upd F i 4 q = 3 ∨ upd F i 4 q = 4 → bt nl q = false)
    by_cases e : q = i
    · subst e
      simp only [upd_at]
      exact ⟨by simp, fun _ => hfq.2.1 (by rw [h1]; decide), fun _ => Nat.le_refl _, by simp, fun _ => hfq.2.2.2.2 (Or.inl h1)⟩
    · have ev : upd F i 4 q = F q := by rw [upd_e, if_neg e]
      rw [ev]
      exact ⟨hfq.1, hfq.2.1, fun h => by have := hfq.2.2.1 h; omega, hfq.2.2.2.1, hfq.2.2.2.2⟩
/-- one passed by -/
theorem zr_pass {n i : Nat} (hn : n ≤ 16) (hi : i < n) {u0 : Int32} {z : zS} {y : yS} (H : zr n (i + 1) u0 z y) (h1 : y.2.2.2.2.1 i ≠ 1) : zr n i u0 z y := by
  obtain ⟨he, hb, hf⟩ := H
  refine ⟨he, ?_, ?_⟩
  · intro q hq
    have hbq := hb q hq
    refine ⟨hbq.1, hbq.2.1, ?_, hbq.2.2.2.1, hbq.2.2.2.2⟩
    rw [hbq.2.2.1]
    by_cases e : q = i
    · subst e
      simp [zf, h1]
    · have : (i + 1 ≤ q) ↔ (i ≤ q) := by omega
      simp [this]
  · intro q hq
    have hfq := hf q hq
    exact ⟨hfq.1, hfq.2.1, fun h => by have := hfq.2.2.1 h; omega, hfq.2.2.2.1, hfq.2.2.2.2⟩
/-- one that falls -/
theorem zr_fall {n i k : Nat} (hn : n ≤ 16) (hk : k < n) {u0 : Int32} {z : zS} {y : yS} (s : Nat → Int32) (li : Nat → Nat) (H : zr n i u0 z y) (h1 : y_hold y.2.2.2.2.1 k = true) : zr n i u0 (z_fell k (z_undo s li k z)) (y_undo s li k 5 y) := by
  obtain ⟨m, c, p, dn, un, nl, fm, fl, MD, LS⟩ := z
  obtain ⟨so, c', p', u, F, C, A, B⟩ := y
  obtain ⟨⟨e1, e2, e3, e4⟩, hb, hf⟩ := H
  simp only at e1 e2 e3 e4 hb hf h1
  subst e1 e2 e3
  have h1' : F k = 2 ∨ F k = 3 := by simpa [y_hold] using h1
  have hk32 : k < 32 := by omega
  have z5 : zf F k 5 = false := by rcases h1' with e | e <;> simp [zf, e]
  have z1 : zf F k 1 = false := by rcases h1' with e | e <;> simp [zf, e]
  have z0 : zf F k 0 = false := by rcases h1' with e | e <;> simp [zf, e]
  have bk := hb k hk32
  have bi : bt un k = false := by rw [bk.2.2.1, z5, z1]; simp
  have fi := (hf k hk).2.1 (by rcases h1' with e | e <;> rw [e] <;> decide)
  refine ⟨⟨?_, ?_, rfl, ?_⟩, ?_, ?_⟩
  · show (m &&& (MD k ^^^ (-1))) ||| LS k = (m &&& (C k ^^^ (-1))) ||| A k
    rw [fi.1, fi.2, zm_eq]
  · exact zmin_eq _
  · show u + 1 = u0 + nI (fb_ct (bt (un ||| pbit k)) 32)
    rw [zc_or hk32 bi, e4, nI_succ, Int32.add_assoc]
  · intro q hq
    have hbq := hb q hq
    show bt dn q = (decide (q < n) && !zf (upd F k 5) q 0) ∧ bt fm q = (decide (q < n) && (zf (upd F k 5) q 2 || zf (upd F k 5) q 3 || zf (upd F k 5) q 5)) ∧ bt (un ||| pbit k) q = (decide (q < n) && (zf (upd F k 5) q 5 || (zf (upd F k 5) q 1 && decide (i ≤ q)))) ∧ bt (fl ||| pbit k) q = (decide (q < n) && zf (upd F k 5) q 5) ∧ (n ≤ q → bt nl q = false)
    simp only [zf_upd, bt_orp _ hk32 hq]
    by_cases e : q = k
    · subst e
      have hh : (zf F q 2 || zf F q 3) = true := by rcases h1' with e | e <;> simp [zf, e]
      simp only [if_true]
      refine ⟨?_, ?_, ?_, ?_, hbq.2.2.2.2⟩
      · rw [hbq.1, z0]; simp
      · rw [hbq.2.1, hh]; simp
      · simp [hk]
      · simp [hk]
    · simp only [e, if_false, decide_false, Bool.or_false]
      exact hbq
  · intro q hq
    have hfq := hf q hq
    show (upd F k 5 q = 0 ∨ upd F k 5 q = 1 ∨ upd F k 5 q = 2 ∨ upd F k 5 q = 3 ∨ upd F k 5 q = 4 ∨ upd F k 5 q = 5) ∧ (upd F k 5 q ≠ 0 → C q = MD q ||| LS q ∧ A q = LS q) ∧ (upd F k 5 q = 4 → i ≤ q) ∧ (upd F k 5 q = 2 → bt nl q = true) ∧ (upd F k 5 q = 1 ∨ upd F k 5 q = 3 ∨ upd F k 5 q = 4 → bt nl q = false)
    by_cases e : q = k
    · subst e
      simp only [upd_at]
      exact ⟨by simp, fun _ => fi, by simp, by simp, by simp⟩
    · have ev : upd F k 5 q = F q := by rw [upd_e, if_neg e]
      rw [ev]
      exact hfq
theorem zr_hold {n i k : Nat} (hk : k < n) (hn : n ≤ 16) {u0 : Int32} {z : zS} {y : yS} (H : zr n i u0 z y) : bt (z_firm z &&& (z_und z ^^^ (-1))) k = y_hold y.2.2.2.2.1 k := by
  have hb := H.2.1 k (by omega)
  rw [b_and, b_xor, b_m1 k (by omega)]
  unfold z_firm z_und
  rw [hb.2.1, hb.2.2.1]
  unfold y_hold zf
  rcases (H.2.2 k hk).1 with e | e | e | e | e | e <;> simp [e, hk]
theorem zr_fallp {n i : Nat} (hn : n ≤ 16) {u0 : Int32} (s : Nat → Int32) (li : Nat → Nat) : ∀ (k : Nat) (b : Bool) (z : zS) (y : yS), k ≤ n → zr n i u0 z y → (z_fallp s li k b z).1 = (y_fallp s li k b y).1 ∧ zr n i u0 (z_fallp s li k b z).2 (y_fallp s li k b y).2
  | 0, b, z, y, _, H => ⟨rfl, H⟩
  | k + 1, b, z, y, hk, H => by
    rw [z_fallp, y_fallp]
    rw [zr_hold (show k < n by omega) hn H, H.1.1]
    by_cases h : y_hold y.2.2.2.2.1 k = true ∧ t_lack s (li k) y.1 ≠ 0
    · rw [if_pos h, if_pos h]
      exact zr_fallp hn s li k true _ _ (by omega) (zr_fall hn (by omega) s li H h.1)
    · rw [if_neg h, if_neg h]
      exact zr_fallp hn s li k b _ _ (by omega) H
theorem zr_falls {n i : Nat} (hn : n ≤ 16) {u0 : Int32} (s : Nat → Int32) (li : Nat → Nat) : ∀ (f : Nat) (z : zS) (y : yS), zr n i u0 z y → zr n i u0 (z_falls s li n f z) (y_falls s li n f y)
  | 0, z, y, H => H
  | f + 1, z, y, H => by
    rw [z_falls, y_falls]
    have h := zr_fallp hn s li n false z y (Nat.le_refl _) H
    rw [h.1]
    split
    · exact zr_falls hn s li f _ _ h.2
    · exact h.2
theorem y_some_cong {p q : Nat → Bool} : ∀ (c k : Nat), (∀ j, k ≤ j → j < k + c → p j = q j) → y_some p c k = y_some q c k
  | 0, _, _ => rfl
  | c + 1, k, h => by
    rw [y_some, y_some, h k (Nat.le_refl _) (by omega), y_some_cong c (k + 1) (fun j h1 h2 => h j (by omega) (by omega))]
def zn5 (n : Nat) (s : Nat → Int32) (y : yS) : Prop := s 3 ≠ 0 → ∀ p, p < n → y.2.2.2.2.1 p ≠ 5
theorem zr_odd1 {n i : Nat} (hn : n ≤ 16) (hi : i < n) {u0 : Int32} {z : zS} {y : yS} (s : Nat → Int32) (li : Nat → Nat) (H : zr n (i + 1) u0 z y) (H5 : zn5 n s y) : zr n i u0 (z_odd1 s li (s 3) n i z) (y_odd1 s li n i y) ∧ zn5 n s (y_odd1 s li n i y) := by
  have hb := H.2.1 i (by omega)
  have hf := H.2.2 i hi
  have c1 : bt (z_done z &&& (z_firm z ^^^ (-1))) i = decide (y.2.2.2.2.1 i = 1) := by
    rw [b_and, b_xor, b_m1 i (by omega)]
    unfold z_done z_firm
    rw [hb.1, hb.2.1]
    unfold zf
    rcases hf.1 with e | e | e | e | e | e
    · simp [e, hi]
    · simp [e, hi]
    · simp [e, hi]
    · simp [e, hi]
    · have := hf.2.2.1 e; omega
    · simp [e, hi]
  unfold z_odd1 y_odd1
  rw [c1]
  by_cases h1 : y.2.2.2.2.1 i = 1
  · rw [if_pos (by simp [h1]), if_pos h1]
    by_cases hl : s 3 = 0
    · have hne : ¬ s 3 = 1 := by rw [hl]; decide
      simp only [hne, false_and, if_false]
      rw [if_pos hl, if_pos hl]
      exact ⟨zr_falls hn s li _ _ _ (zr_undo hn hi s li H h1), fun e => absurd hl e⟩
    · have hs : y_some (z_stayq s li z i) (n - (i + 1)) (i + 1) = y_some (y_heldq s li y.2.2.2.2.1 y.2.2.2.2.2.1 i) (n - (i + 1)) (i + 1) := by
        apply y_some_cong
        intro k hk1 hk2
        have hkn : k < n := by omega
        unfold z_stayq y_heldq z_firm
        rw [(H.2.1 k (by omega)).2.1, (hf.2.1 (by rw [h1]; decide)).1]
        congr 1
        have h5 := H5 hl k hkn
        unfold y_hold zf
        rcases (H.2.2 k hkn).1 with e | e | e | e | e | e
        · simp [e, hkn]
        · simp [e, hkn]
        · simp [e, hkn]
        · simp [e, hkn]
        · simp [e, hkn]
        · exact absurd e h5
      rw [hs]
      by_cases h2 : s 3 = 1 ∧ y_some (y_heldq s li y.2.2.2.2.1 y.2.2.2.2.2.1 i) (n - (i + 1)) (i + 1) = true
      · rw [if_pos h2, if_pos h2]
        refine ⟨zr_stay hn hi H h1, fun e p hp => ?_⟩
        show upd y.2.2.2.2.1 i 4 p ≠ 5
        rw [upd_e]
        split
        · decide
        · exact H5 e p hp
      · rw [if_neg h2, if_neg h2, if_neg hl, if_neg hl]
        refine ⟨zr_undo hn hi s li H h1, fun e p hp => ?_⟩
        rw [y_undo_F, upd_e]
        split
        · decide
        · exact H5 e p hp
  · rw [if_neg (by simp [h1]), if_neg h1]
    exact ⟨zr_pass hn hi H h1, H5⟩
theorem zr_odds {n : Nat} (hn : n ≤ 16) {u0 : Int32} (s : Nat → Int32) (li : Nat → Nat) : ∀ (k : Nat) (z : zS) (y : yS), k ≤ n → zr n k u0 z y → zn5 n s y → zr n 0 u0 (z_odds s li (s 3) n k z) (y_odds s li n k y)
  | 0, z, y, _, H, _ => H
  | k + 1, z, y, hk, H, H5 => by
    rw [z_odds, y_odds]
    have h := zr_odd1 hn (show k < n by omega) s li H H5
    exact zr_odds hn s li k _ _ (by omega) h.1 h.2
theorem y_evens_F (s : Nat → Int32) (li : Nat → Nat) (nails : Int32) : ∀ (n : Nat) (y : yS) (p : Nat), p < n → (y_evens s li nails n y).2.2.2.2.1 p ≠ 5
  | 0, _, _, h => absurd h (Nat.not_lt_zero _)
  | n + 1, y, p, h => by
    rw [y_evens]
    have ih := y_evens_F s li nails n y p
    generalize y_evens s li nails n y = w at ih
    obtain ⟨so, c', p', u, F, C, A, B⟩ := w
    rw [y_even1]
    by_cases hm : t_mayb s (li n) so c' = true
    · rw [if_pos hm]
      by_cases hq : y_nb nails n = true ∧ t_price s n ≤ c' - t_cost s (li n)
      · rw [if_pos hq]
        show upd F n 2 p ≠ 5
        rw [upd_e]
        split
        · decide
        · exact ih (by omega)
      · rw [if_neg hq]
        show upd F n (if t_kept s (li n) = 0 then 1 else 3) p ≠ 5
        rw [upd_e]
        split
        · split <;> decide
        · exact ih (by omega)
    · rw [if_neg hm]
      show upd F n 0 p ≠ 5
      rw [upd_e]
      split
      · decide
      · exact ih (by omega)
/-- a pair: the class's and the Model's -/
theorem zr_pair {n : Nat} (hn : n ≤ 16) (s : Nat → Int32) (li : Nat → Nat) (nails : Int32) (u0 : Int32) {z : zS} {y : yS} (H : zr 0 n u0 z y) : zr n 0 u0 (z_odds s li (s 3) n n (z_evens s li nails n z)) (y_pair s li n nails y) :=
  zr_odds hn s li n _ _ (Nat.le_refl _) (zr_evens s li nails hn H n (Nat.le_refl _)) (fun _ p hp => y_evens_F s li nails n y p hp)
end RELO
