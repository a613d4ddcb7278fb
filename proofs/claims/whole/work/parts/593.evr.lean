section EVR
def p_ev1 (s : Nat → Int32) : Nat → Nat → Int32 → Int32
  | 0, _, a => a
  | c + 1, d, a => p_ev1 s c (d + 1) (if t_g s d 0 ≠ 6 ∧ t_lack s d a = 0 then t_marks s d a else a)
def p_it (s : Nat → Int32) (N : Nat) : Nat → Int32 → Int32
  | 0, a => a
  | k + 1, a => p_it s N k (p_ev1 s N 0 a)
theorem c_evp {h g : ab_HP} (hc : cp h) {N : Nat} (ht : tw N (ab_i g 32)) (hd : td h 1 N (ab_i g 32)) (k10 : Int32 → Int32 → ab_HP → Option Int32) (rd : Int32) : ∀ (c d : Nat) (a : Int32), d + c = N → ∀ f, c < f → f_X11_ever_l18 k10 0 f a rd (nI d) h = k10 (p_ev1 (ab_i g 32) c d a) (rd + 1) h
  | 0, d, a, e, f + 1, _ => by
    have e : d = N := by omega
    subst e
    rw [f_X11_ever_l18]
    simp only [hc 0 0 1 rfl, hc 0 1 3 rfl, hc 0 2 5 rfl, hc 0 3 7 rfl, hc 0 4 11 rfl, hc 0 5 12 rfl, hc 0 6 13 rfl, hc 0 7 14 rfl, hc 1 0 2 rfl, hc 3 0 4 rfl, hc 5 0 6 rfl, hc 7 0 8 rfl, hc 7 1 9 rfl, hc 7 2 10 rfl, Option.bind_some, ab_let, Option.elim_some, Option.elim_none, hd.1.1, ht.2.1]
    rw [if_pos (nI_le (Nat.le_refl _) (by have := ht.1; omega))]
    rfl
  | c + 1, d, a, e, f + 1, hf => by
    have hN := ht.1
    obtain ⟨r, e1, e2, e3⟩ := gr_deed hc ht hd (show d < N by omega)
    have q : ¬ nI N ≤ nI d := nI_ge (by omega) (by omega)
    have ih := fun a => c_evp hc ht hd k10 rd c (d + 1) a (by omega) f (by omega)
    rw [f_X11_ever_l18]
    simp only [hc 0 0 1 rfl, hc 0 1 3 rfl, hc 0 2 5 rfl, hc 0 3 7 rfl, hc 0 4 11 rfl, hc 0 5 12 rfl, hc 0 6 13 rfl, hc 0 7 14 rfl, hc 1 0 2 rfl, hc 3 0 4 rfl, hc 5 0 6 rfl, hc 7 0 8 rfl, hc 7 1 9 rfl, hc 7 2 10 rfl, Option.bind_some, ab_let, Option.elim_some, Option.elim_none, hd.1.1, ht.2.1, q, if_false, e1, c_ground1 e3, bI_0, decide_eq_false_iff_not, e3.2.2.2.2.1, nI_1, ih, p_ev1]
    by_cases hl : t_lack (ab_i g 32) d a = 0
    · simp only [hl, not_true, if_false, and_true]
      by_cases k6 : t_g (ab_i g 32) d 0 = 6
      · simp only [k6, dc_sets, if_true, Int32.or_zero, ne_eq, not_true, if_false]
      · have m := dk_marks (ab_i g 32) d a
        unfold dc_clears at m
        rw [if_neg k6, show ((0 : Int32) ^^^ (-1)) = -1 from rfl, Int32.and_neg_one] at m
        rw [m]
        simp only [k6, ne_eq, not_false_eq_true, if_true]
    · simp only [hl, not_false_eq_true, if_true, and_false, if_false]
  | _, _, _, _, 0, h => absurd h (Nat.not_lt_zero _)
theorem c_ever {h g : ab_HP} (hc : cp h) {N : Nat} (ht : tw N (ab_i g 32)) (hd : td h 1 N (ab_i g 32)) : ∀ (c r : Nat) (a : Int32), r + c = 10 → ∀ f, c < f → f_X11_ever_l10 0 f a (nI r) h = some (p_it (ab_i g 32) N c a)
  | 0, r, a, e, f + 1, _ => by
    have e : r = 10 := by omega
    subst e
    rw [f_X11_ever_l10, if_pos (show (10 : Int32) ≤ nI 10 by decide)]
    rfl
  | c + 1, r, a, e, f + 1, hf => by
    have hN := ht.1
    have e1 := c_evp hc ht hd (f_X11_ever_l10 0 f) (nI r) N 0 a (by omega) 1000 (by omega)
    rw [show nI 0 = 0 from rfl] at e1
    rw [f_X11_ever_l10, if_neg (show ¬ (10 : Int32) ≤ nI r from nI_ge (b := 10) (show r < 10 by omega) (by decide)), e1, nI_1, c_ever hc ht hd c (r + 1) _ (by omega) f (by omega)]
    rfl
  | _, _, _, _, 0, h => absurd h (Nat.not_lt_zero _)
theorem m_evp (g : ab_HP) (hp : mp g) {N : Nat} (ht : tw N (ab_i g 32)) (k9 : Int32 → Int32 → ab_HP → Option Int32) (was : Int32) : ∀ (c d : Nat) (a : Int32), d + c = N → ∀ f, c < f → f_X12_ever_l18 k9 31 f a was (nI d) g = if p_ev1 (ab_i g 32) c d a = was then k9 (p_ev1 (ab_i g 32) c d a) 0 g else k9 (p_ev1 (ab_i g 32) c d a) 1 g
  | 0, d, a, e, f + 1, _ => by
    have e : d = N := by omega
    subst e
    rw [f_X12_ever_l18]
    simp only [hp 0, mp_0, mp_1, mp_2, mp_3, mp_4, mp_5, mp_6, mp_7, mp_8, mp_16, mp_19, mp_20, mp_21, mp_22, mp_23, mp_32, mp_39, shp_2, shp_4, shp_6, shp_8, shp_9, shp_10, shp_11, shp_12, shp_13, shp_14, shp_32, shp_33, shp_34, shp_35, shp_36, shp_37, shp_38, shp_39, shp_40, shp_41, shp_42, shp_43, shp_44, shp_45, shp_46, shp_47, shp_48, shp_49, Option.bind_some, ab_let, Option.elim_some, Option.elim_none, in_l0, in_l1, in_l2, in_l3, in_l4, in_l5, in_l6, lit_c0, lit_c1, lit_c2, lit_c3, lit_c4, lit_c5, lit_c6, Nat.reduceLT, decide_true, if_true, ht.2.1]
    rw [if_pos (nI_le (Nat.le_refl _) (by have := ht.1; omega))]
    rfl
  | c + 1, d, a, e, f + 1, hf => by
    have hN := ht.1
    have q : ¬ nI N ≤ nI d := nI_ge (by omega) (by omega)
    have ih := fun a => m_evp g hp ht k9 was c (d + 1) a (by omega) f (by omega)
    rw [f_X12_ever_l18]
    simp only [hp 0, mp_0, mp_1, mp_2, mp_3, mp_4, mp_5, mp_6, mp_7, mp_8, mp_16, mp_19, mp_20, mp_21, mp_22, mp_23, mp_32, mp_39, shp_2, shp_4, shp_6, shp_8, shp_9, shp_10, shp_11, shp_12, shp_13, shp_14, shp_32, shp_33, shp_34, shp_35, shp_36, shp_37, shp_38, shp_39, shp_40, shp_41, shp_42, shp_43, shp_44, shp_45, shp_46, shp_47, shp_48, shp_49, Option.bind_some, ab_let, Option.elim_some, Option.elim_none, in_l0, in_l1, in_l2, in_l3, in_l4, in_l5, in_l6, lit_c0, lit_c1, lit_c2, lit_c3, lit_c4, lit_c5, lit_c6, Nat.reduceLT, decide_true, if_true, ht.2.1, q, if_false, m_get0 g hp (show d < 8 by omega), m_get1 g hp (show d < 8 by omega), m_marks g hp (show d < 8 by omega), nI_1, ih, p_ev1, t_lack]
    by_cases k6 : t_g (ab_i g 32) d 0 = 6
    · simp only [k6, if_true, ne_eq, not_true, false_and, if_false]
    · by_cases hl : t_g (ab_i g 32) d 1 &&& (a ^^^ (-1)) = 0
      · simp only [k6, hl, if_true, if_false, ne_eq, not_false_eq_true, and_self]
      · simp only [k6, hl, if_false, and_false]
  | _, _, _, _, 0, h => absurd h (Nat.not_lt_zero _)
theorem ct_same {p q : Nat → Bool} : ∀ (n : Nat), (∀ k, k < n → p k = true → q k = true) → fb_ct q n ≤ fb_ct p n → ∀ k, k < n → p k = q k
  | 0, _, _, k, hk => absurd hk (Nat.not_lt_zero _)
  | n + 1, h, hc, k, hk => by
    have h1 := fb_ct_sub (n := n) (p := p) (q := q) (fun k hk => h k (by omega))
    have h2 := h n (by omega)
    rw [fb_ct_succ, fb_ct_succ] at hc
    have e : p n = q n := by
      cases hp : p n <;> cases hq : q n <;> simp_all <;> omega
    rw [e] at hc
    by_cases q2 : k = n
    · subst q2; exact e
    · exact ct_same n (fun k hk => h k (by omega)) (by omega) k (by omega)
def b10 (a : Int32) : Prop := ∀ j, 10 ≤ j → j < 32 → bt a j = false
theorem marks_sub {N : Nat} {s : Nat → Int32} {d : Nat} (a : Int32) (k6 : t_g s d 0 ≠ 6) : ∀ j, bt a j = true → bt (t_marks s d a) j = true := by
  intro j hj
  unfold t_marks dc_marks
  rw [if_neg k6]
  split <;> simp [b_or, hj]
theorem marks_b10 {N : Nat} {s : Nat → Int32} (ht : tw N s) {d : Nat} (hd : d < N) {a : Int32} (ha : b10 a) : b10 (t_marks s d a) := by
  obtain ⟨k, w, m, p, f, hk, hw, hm, hp, hf, e0, e1, e2, e3, e4⟩ := ht.2.2.2.2.2.2 d hd
  intro j h1 h2
  have bm : bt (dc_bit (t_g s d 2)) j = false := by
    rw [e2]
    show bt (pbit m) j = false
    rw [bt_pbit (by omega) h2, decide_eq_false (by omega)]
  have bf : bt (dc_bit (t_g s d 4)) j = false := by
    rw [e4]
    show bt (pbit f) j = false
    rw [bt_pbit (by omega) h2, decide_eq_false (by omega)]
  unfold t_marks dc_marks
  split
  · rw [b_and, ha j h1 h2, Bool.false_and]
  · split
    · rw [b_or, b_or, ha j h1 h2, bm, bf]; rfl
    · rw [b_or, ha j h1 h2, bm]; rfl
theorem ev_sub {N : Nat} {s : Nat → Int32} : ∀ (c d : Nat) (a : Int32), ∀ j, bt a j = true → bt (p_ev1 s c d a) j = true
  | 0, _, _, _, h => h
  | c + 1, d, a, j, h => by
    rw [p_ev1]
    apply ev_sub (N := N) c (d + 1)
    split
    · rename_i q
      exact marks_sub (N := N) a q.1 j h
    · exact h
theorem ev_b10 {N : Nat} {s : Nat → Int32} (ht : tw N s) : ∀ (c d : Nat) (a : Int32), d + c = N → b10 a → b10 (p_ev1 s c d a)
  | 0, _, _, _, h => h
  | c + 1, d, a, e, h => by
    rw [p_ev1]
    apply ev_b10 ht c (d + 1) _ (by omega)
    split
    · exact marks_b10 ht (by omega) h
    · exact h
theorem ev_grow {N : Nat} {s : Nat → Int32} (ht : tw N s) {a : Int32} (ha : b10 a) (hne : p_ev1 s N 0 a ≠ a) : fb_ct (bt a) 10 + 1 ≤ fb_ct (bt (p_ev1 s N 0 a)) 10 := by
  rcases Nat.lt_or_ge (fb_ct (bt a) 10) (fb_ct (bt (p_ev1 s N 0 a)) 10) with q | q
  · exact q
  · exfalso
    apply hne
    have h1 := ct_same (p := bt a) (q := bt (p_ev1 s N 0 a)) 10 (fun k _ hk => ev_sub (N := N) N 0 a k hk) q
    apply b_ext
    intro j hj
    rcases Nat.lt_or_ge j 10 with q2 | q2
    · exact (h1 j q2).symm
    · rw [ev_b10 ht N 0 a (by omega) ha j q2 hj, ha j q2 hj]
theorem it_fix {N : Nat} {s : Nat → Int32} {a : Int32} (h : p_ev1 s N 0 a = a) : ∀ k, p_it s N k a = a
  | 0 => rfl
  | k + 1 => by rw [p_it, h]; exact it_fix h k
theorem m_ever (g : ab_HP) (hp : mp g) {N : Nat} (ht : tw N (ab_i g 32)) : ∀ (k : Nat) (a : Int32), b10 a → 10 ≤ fb_ct (bt a) 10 + k → ∀ f, k + 1 < f → f_X12_ever_l9 31 f a 1 g = some (p_it (ab_i g 32) N k a)
  | k, a, ha, hk, f + 1, hf => by
    have hN := ht.1
    have e1 := m_evp g hp ht (f_X12_ever_l9 31 f) a N 0 a (by omega) 1000 (by omega)
    rw [show nI 0 = 0 from rfl] at e1
    rw [f_X12_ever_l9, if_neg (by decide), e1]
    by_cases q : p_ev1 (ab_i g 32) N 0 a = a
    · rw [if_pos q, q, it_fix q]
      obtain ⟨f, rfl⟩ : ∃ x, f = x + 1 := ⟨f - 1, by omega⟩
      rw [f_X12_ever_l9, if_pos rfl]
    · rw [if_neg q]
      have gw := ev_grow ht ha q
      rcases k with _ | k
      · have := fb_ct_le (bt (p_ev1 (ab_i g 32) N 0 a)) 10
        omega
      · rw [m_ever g hp ht k _ (ev_b10 ht N 0 a (by omega) ha) (by omega) f (by omega)]
        rfl
  | _, _, _, _, 0, h => absurd h (Nat.not_lt_zero _)
theorem q_ever : callq (f_X11_ever 0) (f_X12_ever 31) := by
  rintro h g ⟨hc, hp, h50, ⟨N, ht, hd⟩, hi, hs⟩
  have hb : b10 (ab_i g 32 0) := fun j h1 _ => tw_bits ht j h1
  unfold f_X11_ever f_X12_ever
  simp only [hc 0 0 1 rfl, hc 0 1 3 rfl, hc 0 2 5 rfl, hc 0 3 7 rfl, hc 0 4 11 rfl, hc 0 5 12 rfl, hc 0 6 13 rfl, hc 0 7 14 rfl, hc 1 0 2 rfl, hc 3 0 4 rfl, hc 5 0 6 rfl, hc 7 0 8 rfl, hc 7 1 9 rfl, hc 7 2 10 rfl, hp 0, mp_0, mp_1, mp_2, mp_3, mp_4, mp_5, mp_6, mp_7, mp_8, mp_16, mp_19, mp_20, mp_21, mp_22, mp_23, mp_32, mp_39, shp_2, shp_4, shp_6, shp_8, shp_9, shp_10, shp_11, shp_12, shp_13, shp_14, shp_32, shp_33, shp_34, shp_35, shp_36, shp_37, shp_38, shp_39, shp_40, shp_41, shp_42, shp_43, shp_44, shp_45, shp_46, shp_47, shp_48, shp_49, Option.bind_some, ab_let, Option.elim_some, Option.elim_none, in_l0, in_l1, in_l2, in_l3, in_l4, in_l5, in_l6, lit_c0, lit_c1, lit_c2, lit_c3, lit_c4, lit_c5, lit_c6, Nat.reduceLT, decide_true, if_true, hd.1.2.1]
  exact ⟨_, c_ever hc ht hd 10 0 _ (by omega) 1000 (by omega), m_ever g hp ht 10 _ hb (by omega) 1000 (by omega)⟩
end EVR
