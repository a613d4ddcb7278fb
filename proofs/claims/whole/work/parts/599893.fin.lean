section FIN
theorem m_bits {x : Nat} (h : x < 65536) (H : ab_HP) : f_X12_bits (nI x) H = some (nI (pcN 16 x)) := by
  unfold f_X12_bits
  rw [show (0 : Int32) = nI 0 from rfl, bits_l 16 x 0 1000 h (by decide) (by decide), Nat.zero_add]
theorem k_m4 : ((-4 : Int32) < 0) = True := eq_true (by decide)
def kpl (V X : ab_HP) : Prop := ∀ r j, (r = 42 ∨ r = 47 ∨ (r = 31 ∧ (j = 24 ∨ 32 ≤ j))) → ab_i X r j = ab_i V r j
theorem m_fin {n : Nat} (hn : n ≤ 8) {s : Nat → Int32} {li : Nat → Nat} (wd : Int32) : ∀ (c k : Nat) (V : ab_HP), k + c = 2 ^ n → mp V → ml V n li → ab_i V 32 = s → ab_i V 31 30 = bo (lbest s li n wd k) → (∀ b, lbest s li n wd k = some b → ab_i V 31 31 = (lr s li n b).2) → ∀ f, c < f → ∃ X, f_X12_finds_l8 31 f wd (nI k) V = some (bI (lbest s li n wd (2 ^ n)).isSome, X) ∧ gm V X ∧ ml X n li ∧ ab_i X 31 30 = bo (lbest s li n wd (2 ^ n)) ∧ (∀ b, lbest s li n wd (2 ^ n) = some b → ab_i X 31 31 = (lr s li n b).2) ∧ kpl V X
  | 0, k, V, e, hp, hl, h32, h30, h31, f + 1, _ => by
    have e : k = 2 ^ n := by omega
    have p := p256 hn
    subst e
    refine ⟨V, ?_, gm_refl V, hl, h30, h31, fun _ _ _ => rfl⟩
    rw [f_X12_finds_l8]
    simp only [hl.2.1, shl1 (show n ≤ 16 by omega)]
    rw [if_pos (nI_le (Nat.le_refl _) (by omega)), h30]
    rcases hlb : lbest s li n wd (2 ^ n) with _ | b
    · simp only [bo, k_m4, if_true]
      rfl
    · have hbk := lbest_lt s li n wd _ b hlb
      simp only [bo, nI_lt0 (show b < 2 ^ 31 by omega), if_false]
      rfl
  | c + 1, k, V, e, hp, hl, h32, h30, h31, f + 1, hf => by
    have p := p256 hn
    have q : ¬ nI (2 ^ n) ≤ nI k := nI_ge (by omega) (by omega)
    obtain ⟨V4, hV4⟩ : ∃ V4, V4 = ab_ip V 31 25 (nI k) := ⟨_, rfl⟩
    have o4 : ∀ r j, ¬ (r = 31 ∧ j = 25) → ab_i V4 r j = ab_i V r j := fun r j g => by rw [hV4, hi_ip, if_neg g]
    have hp4 : mp V4 := by rw [hV4]; exact hp
    have hl4 : ml V4 n li := ⟨hl.1, (o4 31 24 (by omega)).trans hl.2.1, fun i hi => ⟨(o4 42 i (by omega)).trans (hl.2.2 i hi).1, (hl.2.2 i hi).2⟩⟩
    have s4 : ab_i V4 32 = s := by rw [← h32]; exact funext fun j => o4 32 j (by omega)
    have e25 : ab_i V4 31 25 = nI k := by rw [hV4, hi_ip, if_pos ⟨rfl, rfl⟩]
    have mb := m_begins hp4 (y_of V4)
    rw [y_put_of, s4] at mb
    have vp := m_pair V4 hp4 hl4 (s 0, s 1, 0, 0, (y_of V4).2.2.2.2)
    rw [s4, e25] at vp
    have yl := lr_y (show n ≤ 16 by omega) s li k (ab_i V4 45) (ab_i V4 43) (ab_i V4 44) (ab_i V4 46)
    obtain ⟨y, hy⟩ : ∃ y, y = y_pair s li n (nI k) (s 0, s 1, 0, 0, (y_of V4).2.2.2.2) := ⟨_, rfl⟩
    rw [← hy] at vp
    rw [show y_pair s li n (nI k) (s 0, s 1, 0, 0, ab_i V4 45, ab_i V4 43, ab_i V4 44, ab_i V4 46) = y from hy.symm] at yl
    have B4 : gm V V4 := by rw [hV4]; exact gm_ip (by omega)
    have BP : gm V (y_put V4 y) := B4.trans (gm_y V4 y)
    have oP : ∀ r j, (r = 42 ∨ r = 47 ∨ (r = 31 ∧ (j = 24 ∨ 30 ≤ j))) → ab_i (y_put V4 y) r j = ab_i V r j := fun r j g => by
      by_cases e : r = 31
      · subst e
        rw [y_31 _ _ (by omega) (by omega) (by omega) (by omega), o4 31 j (by omega)]
      · rw [y_oth _ _ _ e (by omega) (by omega) (by omega) (by omega), o4 r j (by omega)]
    have p30 : ab_i (y_put V4 y) 31 30 = bo (lbest s li n wd k) := (oP 31 30 (by omega)).trans h30
    have p31 : ab_i (y_put V4 y) 31 31 = ab_i V 31 31 := oP 31 31 (by omega)
    have mlP : ml (y_put V4 y) n li := ⟨hl.1, (oP 31 24 (by omega)).trans hl.2.1, fun i hi => ⟨(oP 42 i (by omega)).trans (hl.2.2 i hi).1, (hl.2.2 i hi).2⟩⟩
    have sP : ab_i (y_put V4 y) 32 = s := by rw [BP.s32]; exact h32
    have ps : lbest s li n wd (k + 1) = lbest s li n wd k → ∃ X, f_X12_finds_l8 31 f wd (nI (k + 1)) (y_put V4 y) = some (bI (lbest s li n wd (2 ^ n)).isSome, X) ∧ gm V X ∧ ml X n li ∧ ab_i X 31 30 = bo (lbest s li n wd (2 ^ n)) ∧ (∀ b, lbest s li n wd (2 ^ n) = some b → ab_i X 31 31 = (lr s li n b).2) ∧ kpl V X := fun e1 => by
      obtain ⟨X, x1, x2, x3, x4, x5, x6⟩ := m_fin hn (s := s) (li := li) wd c (k + 1) (y_put V4 y) (by omega) (BP.mp hp) mlP sP (by rw [e1]; exact p30) (fun b hb => by rw [p31]; exact h31 b (by rw [← e1]; exact hb)) f (by omega)
      exact ⟨X, x1, BP.trans x2, x3, x4, x5, fun r j g => (x6 r j g).trans (oP r j (by omega))⟩
    obtain ⟨Q, hQ⟩ : ∃ Q, Q = ab_ip (ab_ip (y_put V4 y) 31 30 (nI k)) 31 31 (lr s li n k).2 := ⟨_, rfl⟩
    have oQ : ∀ r j, ¬ (r = 31 ∧ (j = 30 ∨ j = 31)) → ab_i Q r j = ab_i (y_put V4 y) r j := fun r j g => by rw [hQ, hi_ip, if_neg (by omega), hi_ip, if_neg (by omega)]
    have BQ : gm (y_put V4 y) Q := by rw [hQ]; exact (gm_ip (by omega)).trans (gm_ip (by omega))
    have tk : lbest s li n wd (k + 1) = some k → ∃ X, f_X12_finds_l8 31 f wd (nI (k + 1)) Q = some (bI (lbest s li n wd (2 ^ n)).isSome, X) ∧ gm V X ∧ ml X n li ∧ ab_i X 31 30 = bo (lbest s li n wd (2 ^ n)) ∧ (∀ b, lbest s li n wd (2 ^ n) = some b → ab_i X 31 31 = (lr s li n b).2) ∧ kpl V X := fun e1 => by
      have mlQ : ml Q n li := ⟨hl.1, (oQ 31 24 (by omega)).trans mlP.2.1, fun i hi => ⟨(oQ 42 i (by omega)).trans (mlP.2.2 i hi).1, (hl.2.2 i hi).2⟩⟩
      obtain ⟨X, x1, x2, x3, x4, x5, x6⟩ := m_fin hn (s := s) (li := li) wd c (k + 1) Q (by omega) (BQ.mp (BP.mp hp)) mlQ (by rw [BQ.s32]; exact sP) (by rw [e1, hQ, hi_ip, if_neg (by omega), hi_ip, if_pos ⟨rfl, rfl⟩]; rfl) (fun b hb => by rw [e1] at hb; cases hb; rw [hQ, hi_ip, if_pos ⟨rfl, rfl⟩]) f (by omega)
      exact ⟨X, x1, (BP.trans BQ).trans x2, x3, x4, x5, fun r j g => (x6 r j g).trans ((oQ r j (by omega)).trans (oP r j (by omega)))⟩
    have b94 : f_X12_finds_b94 (f_X12_finds_l8 31 f) 31 wd (nI k) (y_put V4 y) = f_X12_finds_l8 31 f wd (nI (k + 1)) Q := by
      have q28 : ab_i (ab_ip (y_put V4 y) 31 30 (nI k)) 31 28 = (lr s li n k).2 := by rw [hi_ip, if_neg (by omega), y_28, yl.2]
      unfold f_X12_finds_b94 ab_let
      dsimp only
      rw [q28, nI_1, ← hQ]
    rw [f_X12_finds_l8]
    simp only [hl.2.1, shl1 (show n ≤ 16 by omega), q, if_false, Option.bind_some, ab_let, Option.elim_some, Option.elim_none, ← hV4, mb, vp, y_26, yl.1, p30]
    by_cases ok : wd &&& ((lr s li n k).1 ^^^ (-1)) = 0
    · have okb : lok s li n wd k = true := decide_eq_true ok
      rcases hlb : lbest s li n wd k with _ | b
      · have e1 : lbest s li n wd (k + 1) = some k := by rw [lbest, hlb, if_pos ⟨okb, rfl⟩]
        simp only [ok, if_true, bo, k_m4, b94]
        exact tk e1
      · have hbk := lbest_lt s li n wd k b hlb
        have pb := pc_le16 b
        have pk := pc_le16 k
        simp only [ok, if_true, bo, nI_lt0 (show b < 2 ^ 31 by omega), if_false, m_bits (show b < 65536 by omega), m_bits (show k < 65536 by omega), Option.bind_some, nI_ltI (show pcN 16 b < 2 ^ 31 by omega) (show pcN 16 k < 2 ^ 31 by omega), nI_eq (show pcN 16 k < 2 ^ 31 by omega) (show pcN 16 b < 2 ^ 31 by omega), y_28, yl.2, p31, h31 b hlb, b94, nI_1]
        by_cases a1 : pcN 16 b < pcN 16 k
        · have e1 : lbest s li n wd (k + 1) = some b := by rw [lbest, hlb, if_neg (fun x => by have := x.2; simp [lbet] at this; omega)]
          simp only [a1, if_true]
          exact ps (e1.trans hlb.symm)
        · simp only [a1, if_false]
          by_cases a2 : pcN 16 k = pcN 16 b
          · simp only [a2, if_true]
            by_cases a4 : (lr s li n k).2 < (lr s li n b).2
            · have e1 : lbest s li n wd (k + 1) = some k := by rw [lbest, hlb, if_pos ⟨okb, by simp [lbet, a2, a4]⟩]
              simp only [a4, if_true]
              exact tk e1
            · have e1 : lbest s li n wd (k + 1) = some b := by rw [lbest, hlb, if_neg (fun x => by have := x.2; simp [lbet, a2, a4] at this)]
              simp only [a4, if_false]
              exact ps (e1.trans hlb.symm)
          · have a3 : pcN 16 k < pcN 16 b := by omega
            have e1 : lbest s li n wd (k + 1) = some k := by rw [lbest, hlb, if_pos ⟨okb, by simp [lbet, a3]⟩]
            simp only [a2, if_false]
            exact tk e1
    · have okb : lok s li n wd k = false := decide_eq_false ok
      have e1 : lbest s li n wd (k + 1) = lbest s li n wd k := by rw [lbest, okb, if_neg (fun x => by cases x.1)]
      simp only [ok, if_false, nI_1]
      exact ps e1
  | _, _, _, _, _, _, _, _, _, 0, h => absurd h (Nat.not_lt_zero _)
theorem c_marks10 (i : Int32) (h : ab_HP) : f_X11_areMarks i h = some (bI (decide (0 ≤ i ∧ i ≤ 1023))) := by
  unfold f_X11_areMarks
  by_cases q : i < 0
  · rw [if_pos q, decide_eq_false, bI_f]
    rintro ⟨a, _⟩
    rw [n_lt] at q
    rw [n_le] at a
    omega
  · rw [if_neg q]
    by_cases q2 : 1023 < i
    · rw [if_pos q2, decide_eq_false, bI_f]
      rintro ⟨_, a⟩
      rw [n_lt] at q2
      rw [n_le] at a
      omega
    · rw [if_neg q2, decide_eq_true, bI_t]
      rw [n_lt] at q q2
      rw [n_le, n_le]
      omega
end FIN
