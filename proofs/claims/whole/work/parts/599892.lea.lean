section LEA
/-- MARKS behind a pair from how the town is, and what was paid -/
def lr (s : Nat → Int32) (li : Nat → Nat) (n k : Nat) : Int32 × Int32 := ((y_pair s li n (nI k) (s 0, s 1, 0, 0, fun _ => 0, fun _ => 0, fun _ => 0, fun _ => 0)).1, (y_pair s li n (nI k) (s 0, s 1, 0, 0, fun _ => 0, fun _ => 0, fun _ => 0, fun _ => 0)).2.2.1)
theorem lr_z {n : Nat} (hn : n ≤ 16) (s : Nat → Int32) (li : Nat → Nat) (k : Nat) (MD LS : Nat → Int32) : (z_odds s li (s 3) n n (z_evens s li (nI k) n (s 0, s 1, 0, 0, 0, 0, 0, 0, MD, LS))).1 = (lr s li n k).1 ∧ (z_odds s li (s 3) n n (z_evens s li (nI k) n (s 0, s 1, 0, 0, 0, 0, 0, 0, MD, LS))).2.2.1 = (lr s li n k).2 := by
  have Z := pl_zr hn s li (nI k) (fun _ => 0) (fun _ => 0) (fun _ => 0) (fun _ => 0) MD LS
  exact ⟨Z.1.1, Z.1.2.2.1⟩
theorem lr_y {n : Nat} (hn : n ≤ 16) (s : Nat → Int32) (li : Nat → Nat) (k : Nat) (F C A B : Nat → Int32) : (y_pair s li n (nI k) (s 0, s 1, 0, 0, F, C, A, B)).1 = (lr s li n k).1 ∧ (y_pair s li n (nI k) (s 0, s 1, 0, 0, F, C, A, B)).2.2.1 = (lr s li n k).2 := by
  have Z := pl_zr hn s li (nI k) F C A B (fun _ => 0) (fun _ => 0)
  have W := lr_z hn s li k (fun _ => 0) (fun _ => 0)
  exact ⟨Z.1.1.symm.trans W.1, Z.1.2.2.1.symm.trans W.2⟩
def lok (s : Nat → Int32) (li : Nat → Nat) (n : Nat) (wd : Int32) (k : Nat) : Bool := decide (wd &&& ((lr s li n k).1 ^^^ (-1)) = 0)
def lbet (s : Nat → Int32) (li : Nat → Nat) (n : Nat) (o : Option Nat) (k : Nat) : Bool := match o with
  | none => true
  | some b => decide (pcN 16 k < pcN 16 b) || (decide (pcN 16 k = pcN 16 b) && decide ((lr s li n k).2 < (lr s li n b).2))
def lbest (s : Nat → Int32) (li : Nat → Nat) (n : Nat) (wd : Int32) : Nat → Option Nat
  | 0 => none
  | k + 1 => if lok s li n wd k = true ∧ lbet s li n (lbest s li n wd k) k = true then some k else lbest s li n wd k
def bo (o : Option Nat) : Int32 := match o with
  | none => -4
  | some k => nI k
theorem lbest_lt (s : Nat → Int32) (li : Nat → Nat) (n : Nat) (wd : Int32) : ∀ (k b : Nat), lbest s li n wd k = some b → b < k
  | 0, _, h => by cases h
  | k + 1, b, h => by
    rw [lbest] at h
    split at h
    · cases h; exact Nat.lt_succ_self _
    · have := lbest_lt s li n wd k b h; omega
theorem pc_le16 (x : Nat) : pcN 16 x ≤ 16 := by
  have : ∀ n x, pcN n x ≤ n := by
    intro n
    induction n with
    | zero => intro x; exact Nat.le_refl _
    | succ n ih => intro x; have := ih (x / 2); rw [pcN]; omega
  exact this 16 x
theorem nI_dle {a b : Nat} (ha : a < 1000) (hb : b < 1000) : (0 ≤ nI a - nI b) = (b ≤ a) := by
  apply propext
  rw [n_le, n_sub (by rw [nI_toInt (by omega), nI_toInt (by omega)]; omega) (by rw [nI_toInt (by omega), nI_toInt (by omega)]; omega), nI_toInt (by omega), nI_toInt (by omega), l_int0]
  omega
theorem nI_dlt {a b : Nat} (ha : a < 1000) (hb : b < 1000) : (0 < nI a - nI b) = (b < a) := by
  apply propext
  rw [n_lt, n_sub (by rw [nI_toInt (by omega), nI_toInt (by omega)]; omega) (by rw [nI_toInt (by omega), nI_toInt (by omega)]; omega), nI_toInt (by omega), nI_toInt (by omega), l_int0]
  omega
theorem p256 {n : Nat} (hn : n ≤ 8) : 2 ^ n ≤ 256 := Nat.pow_le_pow_right (n := 2) (by decide) hn
theorem k_0m4 : ((0 : Int32) ≤ -4) = False := eq_false (by decide)
theorem k_01 : ((0 : Int32) ≤ 1) = True := eq_true (by decide)
theorem k_01l : ((0 : Int32) < 1) = True := eq_true (by decide)
theorem c_lea {N : Nat} (hN : N ≤ 8) {n : Nat} (hn : n ≤ 8) {s : Nat → Int32} {li : Nat → Nat} (wd : Int32) : ∀ (c k : Nat) (U : ab_HP) (pd : Int32), k + c = 2 ^ n → kc U N s n li → ab_i U 1 2 = s 0 → ab_i U 1 3 = s 1 → (∀ b, lbest s li n wd k = some b → pd = (lr s li n b).2) → ∀ f, c < f → ∃ W, f_X10_leastNails_l8 7 f wd (bo (lbest s li n wd k)) pd (nI k) U = some (bo (lbest s li n wd (2 ^ n)), W) ∧ kc W N s n li ∧ hm U W ∧ ∀ a b, a ≠ 7 → a ≠ 9 → a ≠ 10 → ab_i W a b = ab_i U a b
  | 0, k, U, pd, e, H, h2, h3, hb, f + 1, _ => by
    have e : k = 2 ^ n := by omega
    have p := p256 hn
    subst e
    rw [f_X10_leastNails_l8]
    simp only [H.2.2.1.2.1, shl1 (show n ≤ 16 by omega)]
    rw [if_pos (nI_le (Nat.le_refl _) (by omega))]
    exact ⟨U, rfl, H, hm_refl U, fun _ _ _ _ _ => rfl⟩
  | c + 1, k, U, pd, e, H, h2, h3, hb, f + 1, hf => by
    have p := p256 hn
    have q : ¬ nI (2 ^ n) ≤ nI k := nI_ge (by omega) (by omega)
    have cpl := c_play H.1 H.2.2.1 H.2.2.2.1 H.2.2.2.2 h2 h3 (nI k)
    have zl := lr_z (show n ≤ 16 by omega) s li k (ab_i U 9) (ab_i U 10)
    generalize z_odds s li (s 3) n n (z_evens s li (nI k) n (s 0, s 1, 0, 0, 0, 0, 0, 0, ab_i U 9, ab_i U 10)) = z at cpl zl
    have H' := kc_z hN H z
    have same : ∀ W, (kc W N s n li ∧ hm (z_put U z) W ∧ ∀ a b, a ≠ 7 → a ≠ 9 → a ≠ 10 → ab_i W a b = ab_i (z_put U z) a b) → kc W N s n li ∧ hm U W ∧ ∀ a b, a ≠ 7 → a ≠ 9 → a ≠ 10 → ab_i W a b = ab_i U a b := fun W q => ⟨q.1, (hm_z U z).trans q.2.1, fun a b g1 g2 g3 => (q.2.2 a b g1 g2 g3).trans (z_oth U z b g1 g2 g3)⟩
    -- taken, and passed by
    have tk : lbest s li n wd (k + 1) = some k → ∃ W, f_X10_leastNails_l8 7 f wd (nI k) (lr s li n k).2 (nI (k + 1)) (z_put U z) = some (bo (lbest s li n wd (2 ^ n)), W) ∧ kc W N s n li ∧ hm U W ∧ ∀ a b, a ≠ 7 → a ≠ 9 → a ≠ 10 → ab_i W a b = ab_i U a b := fun e1 => by
      obtain ⟨W, w1, w2⟩ := c_lea hN hn wd c (k + 1) (z_put U z) (lr s li n k).2 (by omega) H' h2 h3 (fun b hb2 => by rw [e1] at hb2; cases hb2; rfl) f (by omega)
      rw [e1] at w1
      exact ⟨W, w1, same W w2⟩
    have ps : lbest s li n wd (k + 1) = lbest s li n wd k → ∃ W, f_X10_leastNails_l8 7 f wd (bo (lbest s li n wd k)) pd (nI (k + 1)) (z_put U z) = some (bo (lbest s li n wd (2 ^ n)), W) ∧ kc W N s n li ∧ hm U W ∧ ∀ a b, a ≠ 7 → a ≠ 9 → a ≠ 10 → ab_i W a b = ab_i U a b := fun e1 => by
      obtain ⟨W, w1, w2⟩ := c_lea hN hn wd c (k + 1) (z_put U z) pd (by omega) H' h2 h3 (fun b hb2 => hb b (by rw [← e1]; exact hb2)) f (by omega)
      rw [e1] at w1
      exact ⟨W, w1, same W w2⟩
    have ps0 : lbest s li n wd (k + 1) = lbest s li n wd k → ∃ W, f_X10_leastNails_l8 7 f wd (bo (lbest s li n wd k)) pd (nI (k + 1)) U = some (bo (lbest s li n wd (2 ^ n)), W) ∧ kc W N s n li ∧ hm U W ∧ ∀ a b, a ≠ 7 → a ≠ 9 → a ≠ 10 → ab_i W a b = ab_i U a b := fun e1 => by
      obtain ⟨W, w1, w2⟩ := c_lea hN hn wd c (k + 1) U pd (by omega) H h2 h3 (fun b hb2 => hb b (by rw [← e1]; exact hb2)) f (by omega)
      rw [e1] at w1
      exact ⟨W, w1, w2⟩
    rw [f_X10_leastNails_l8]
    simp only [H.2.2.1.2.1, shl1 (show n ≤ 16 by omega), q, if_false, f_X10_leastNails_b77, nI_1]
    by_cases ok : wd &&& ((lr s li n k).1 ^^^ (-1)) = 0
    · have okb : lok s li n wd k = true := decide_eq_true ok
      rcases hlb : lbest s li n wd k with _ | b
      · have e1 : lbest s li n wd (k + 1) = some k := by rw [lbest, hlb, if_pos ⟨okb, rfl⟩]
        simp only [bo, k_0m4, if_false, k_01, k_01l, if_true, cpl, Option.bind_some, z_a6, z_a8, zl.1, zl.2, ok]
        exact tk e1
      · have hbk := lbest_lt s li n wd k b hlb
        have pb := pc_le16 b
        have pk := pc_le16 k
        rw [hlb] at ps ps0
        simp only [bo] at ps ps0
        simp only [bo, show (0 ≤ nI b) = True from eq_true (nI_pos' (by omega)), if_true, bc_nI (show b < 65536 by omega), bc_nI (show k < 65536 by omega), Option.bind_some, nI_dle (show pcN 16 b < 1000 by omega) (show pcN 16 k < 1000 by omega), nI_dlt (show pcN 16 b < 1000 by omega) (show pcN 16 k < 1000 by omega), cpl, z_a6, z_a8, zl.1, zl.2, ok]
        by_cases a1 : pcN 16 k ≤ pcN 16 b
        · simp only [a1, if_true]
          by_cases a2 : pcN 16 k < pcN 16 b
          · have e1 : lbest s li n wd (k + 1) = some k := by rw [lbest, hlb, if_pos ⟨okb, by simp [lbet, a2]⟩]
            simp only [a2, if_true]
            exact tk e1
          · have a3 : pcN 16 k = pcN 16 b := by omega
            simp only [a2, if_false]
            by_cases a4 : (lr s li n k).2 < (lr s li n b).2
            · have e1 : lbest s li n wd (k + 1) = some k := by rw [lbest, hlb, if_pos ⟨okb, by simp [lbet, a3, a4]⟩]
              have a5 : ¬ pd ≤ (lr s li n k).2 := by rw [hb b hlb, n_le]; rw [n_lt] at a4; omega
              simp only [a5, if_false]
              exact tk e1
            · have e1 : lbest s li n wd (k + 1) = some b := by rw [lbest, hlb, if_neg (fun x => by have := x.2; simp [lbet, a3, a4] at this)]
              have a5 : pd ≤ (lr s li n k).2 := by rw [hb b hlb, n_le]; rw [n_lt] at a4; omega
              simp only [a5, if_true]
              exact ps e1
        · have e1 : lbest s li n wd (k + 1) = some b := by rw [lbest, hlb, if_neg (fun x => by have := x.2; simp [lbet] at this; omega)]
          simp only [a1, if_false]
          exact ps0 e1
    · have okb : lok s li n wd k = false := decide_eq_false ok
      have e1 : lbest s li n wd (k + 1) = lbest s li n wd k := by rw [lbest, okb, if_neg (fun x => by cases x.1)]
      rcases hlb : lbest s li n wd k with _ | b
      · rw [hlb] at ps
        simp only [bo] at ps
        simp only [bo, k_0m4, if_false, k_01, k_01l, if_true, cpl, Option.bind_some, z_a6, z_a8, zl.1, zl.2, ok]
        exact ps (e1.trans hlb)
      · have hbk := lbest_lt s li n wd k b hlb
        have pb := pc_le16 b
        have pk := pc_le16 k
        rw [hlb] at ps ps0 e1
        simp only [bo] at ps ps0
        simp only [bo, show (0 ≤ nI b) = True from eq_true (nI_pos' (by omega)), if_true, bc_nI (show b < 65536 by omega), bc_nI (show k < 65536 by omega), Option.bind_some, nI_dle (show pcN 16 b < 1000 by omega) (show pcN 16 k < 1000 by omega), nI_dlt (show pcN 16 b < 1000 by omega) (show pcN 16 k < 1000 by omega), cpl, z_a6, z_a8, zl.1, zl.2, ok, if_false]
        by_cases a1 : pcN 16 k ≤ pcN 16 b
        · simp only [a1, if_true]
          exact ps e1
        · simp only [a1, if_false]
          exact ps0 e1
  | _, _, _, _, _, _, _, _, _, 0, h => absurd h (Nat.not_lt_zero _)
end LEA
