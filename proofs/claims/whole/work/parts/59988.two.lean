section TWO
theorem m_begins {V : ab_HP} (hp : mp V) (y : yS) : f_X12_begins 31 (y_put V y) = some (y_put V (ab_i V 32 0, ab_i V 32 1, 0, 0, y.2.2.2.2)) := by
  obtain ⟨so, c, p, u, F, C, A, B⟩ := y
  unfold f_X12_begins
  simp only [y_r, hp 0, mp_0, mp_1, mp_2, mp_3, mp_4, mp_5, mp_6, mp_7, mp_8, mp_16, mp_19, mp_20, mp_21, mp_22, mp_23, mp_32, mp_39, shp_2, shp_4, shp_6, shp_8, shp_9, shp_10, shp_11, shp_12, shp_13, shp_14, shp_32, shp_33, shp_34, shp_35, shp_36, shp_37, shp_38, shp_39, shp_40, shp_41, shp_42, shp_43, shp_44, shp_45, shp_46, shp_47, shp_48, shp_49, Option.bind_some, ab_let, Option.elim_some, Option.elim_none, in_l0, in_l1, in_l2, in_l3, in_l4, in_l5, in_l6, lit_c0, lit_c1, lit_c2, lit_c3, lit_c4, lit_c5, lit_c6, Nat.reduceLT, decide_true, if_true, y_s, y_p26, y_p27, y_p28, y_p29, y_p43, y_p44, y_p45, y_p46]
def updN (f : Nat → Nat) (i x : Nat) : Nat → Nat := fun j => if j = i then x else f j
def tinv (h g : ab_HP) (N : Nat) (s : Nat → Int32) (k : Nat) (L Wh : Nat → Nat) (nl on : Int32) (U V : ab_HP) : Prop := kc U N s k L ∧ hm h U ∧ gm g V ∧ ab_i V 31 24 = nI k ∧ (∀ j, j < k → ab_i V 42 j = nI (L j) ∧ ab_i V 48 j = nI (Wh j) ∧ L j < N ∧ Wh j < 2) ∧ ab_i V 31 25 = nl ∧ ∀ p, p < 32 → bt on p = (decide (p < k) && decide (Wh p = 0))
theorem kc_upd {U : ab_HP} {N k : Nat} {s : Nat → Int32} {L L' : Nat → Nat} (e : ∀ j, j < k → L' j = L j) (H : kc U N s k L) : kc U N s k L' := by
  obtain ⟨hc, hd, hl, hct, h4⟩ := H
  refine ⟨hc, hd, ⟨hl.1, hl.2.1, fun i hi => ?_⟩, hct, h4⟩
  rw [e i hi]
  exact hl.2.2 i hi
theorem tinv_add {h g : ab_HP} {N : Nat} {s : Nat → Int32} (ht : tw N s) {k : Nat} {L Wh : Nat → Nat} {nl on : Int32} {U V : ab_HP} (T : tinv h g N s k L Wh nl on U V) (hk : k < 16) {x q : Nat} (hx : x < N) (hq : q < 2) (nl' : Int32) : ∃ r W, f_X9_deedAt 1 (nI x) U = some (some r) ∧ f_X10_add 7 (some r) U = some W ∧ tinv h g N s (k + 1) (updN L k x) (updN Wh k q) nl' (if q = 0 then on ||| pbit k else on) W (ab_ip (ab_ip (ab_ip (ab_ip V 42 k (nI x)) 48 k (nI q)) 31 25 nl') 31 24 (nI (k + 1))) := by
  obtain ⟨t1, t2, t3, t4, t5, t6, t7⟩ := T
  have ek : updN L k x k = x := if_pos rfl
  obtain ⟨r, W, w1, w2, w3, w4, w5⟩ := kc_add ht (kc_upd (L' := updN L k x) (fun j hj => if_neg (by omega)) t1) hk (by rw [ek]; exact hx)
  rw [ek] at w1
  refine ⟨r, W, w1, w2, w3, t2.trans w4, t3.trans ((((gm_ip (by omega)).trans (gm_ip (by omega))).trans (gm_ip (by omega))).trans (gm_ip (by omega))), ?_, ?_, ?_, ?_⟩
  · rw [hi_ip, if_pos ⟨rfl, rfl⟩]
  · intro j hj
    by_cases e : j = k
    · subst e
      refine ⟨?_, ?_, ?_, ?_⟩
      · rw [hi_ip, if_neg (by omega), hi_ip, if_neg (by omega), hi_ip, if_neg (by omega), hi_ip, if_pos ⟨rfl, rfl⟩, ek]
      · rw [hi_ip, if_neg (by omega), hi_ip, if_neg (by omega), hi_ip, if_pos ⟨rfl, rfl⟩, show updN Wh j q j = q from if_pos rfl]
      · rw [ek]; exact hx
      · rw [show updN Wh j q j = q from if_pos rfl]; exact hq
    · have := t5 j (by omega)
      refine ⟨?_, ?_, ?_, ?_⟩
      · rw [hi_ip, if_neg (by omega), hi_ip, if_neg (by omega), hi_ip, if_neg (by omega), hi_ip, if_neg (by omega), show updN L k x j = L j from if_neg e]; exact this.1
      · rw [hi_ip, if_neg (by omega), hi_ip, if_neg (by omega), hi_ip, if_neg (by omega), hi_ip, if_neg (by omega), show updN Wh k q j = Wh j from if_neg e]; exact this.2.1
      · rw [show updN L k x j = L j from if_neg e]; exact this.2.2.1
      · rw [show updN Wh k q j = Wh j from if_neg e]; exact this.2.2.2
  · rw [hi_ip, if_neg (by omega), hi_ip, if_pos ⟨rfl, rfl⟩]
  · intro p hp
    have tp := t7 p hp
    by_cases e : p = k
    · subst e
      rw [show updN Wh p q p = q from if_pos rfl]
      simp only [Nat.lt_irrefl, decide_false, Bool.false_and] at tp
      by_cases q0 : q = 0
      · rw [if_pos q0, bt_orp _ (by omega) hp]
        simp [q0]
      · rw [if_neg q0, tp]
        simp [q0]
    · rw [show updN Wh k q p = Wh p from if_neg e]
      have e2 : decide (p < k + 1) = decide (p < k) := by
        rw [decide_eq_decide]; omega
      rw [e2]
      by_cases q0 : q = 0
      · rw [if_pos q0, bt_orp _ (by omega) hp, decide_eq_false e, Bool.or_false]; exact tp
      · rw [if_neg q0]; exact tp
theorem m_twc (g : ab_HP) (hp : mp g) {n : Nat} (hn : n ≤ 16) (h24 : ab_i g 31 24 = nI n) {Wh : Nat → Nat} (hw : ∀ j, j < n → ab_i g 48 j = nI (Wh j)) (wh : Int32) : ∀ (c k : Nat), k + c = n → ∀ f, c < f → f_X12_two_l224 31 f wh (nI (fb_ct (fun p => decide (nI (Wh p) = wh) && y_std (ab_i g 45) p) k)) (nI k) g = some (nI (fb_ct (fun p => decide (nI (Wh p) = wh) && y_std (ab_i g 45) p) n), g)
  | 0, k, e, f + 1, _ => by
    have e : k = n := by omega
    subst e
    rw [f_X12_two_l224]
    simp only [h24]
    rw [if_pos (nI_le (Nat.le_refl _) (by omega))]
  | c + 1, k, e, f + 1, hf => by
    have q : ¬ nI n ≤ nI k := nI_ge (by omega) (by omega)
    have b2 : ab_in (nI k) 16 = true := in_nI (by omega) (by decide)
    have c2 : (nI k).toNatClampNeg = k := nI_clamp (by omega)
    have ih := m_twc g hp hn h24 hw wh c (k + 1) (by omega) f (by omega)
    rw [fb_ct_succ] at ih
    rw [f_X12_two_l224]
    simp only [h24, q, if_false, hp 39, hp 22, mp_0, mp_1, mp_2, mp_3, mp_4, mp_5, mp_6, mp_7, mp_8, mp_16, mp_19, mp_20, mp_21, mp_22, mp_23, mp_32, mp_39, shp_2, shp_4, shp_6, shp_8, shp_9, shp_10, shp_11, shp_12, shp_13, shp_14, shp_32, shp_33, shp_34, shp_35, shp_36, shp_37, shp_38, shp_39, shp_40, shp_41, shp_42, shp_43, shp_44, shp_45, shp_46, shp_47, shp_48, shp_49, Option.bind_some, ab_let, Option.elim_some, Option.elim_none, b2, c2, if_true, nI_1, show ∀ a : Int32, a + 0 = a from Int32.add_zero, hw k (by omega), m_hold g hp (show k < 16 by omega), bI_0]
    by_cases e1 : nI (Wh k) = wh
    · rw [if_pos e1]
      simp only [decide_eq_true e1, Bool.true_and] at ih
      rcases Bool.eq_false_or_eq_true (y_hold (ab_i g 45) k) with hb | hb
      · have t : y_std (ab_i g 45) k = true := by
          unfold y_hold at hb
          unfold y_std zf
          rw [hb, Bool.true_or]
        simp only [hb, Bool.true_eq_false, if_false]
        simp only [t] at ih
        exact ih
      · simp only [hb, if_true]
        by_cases e4 : ab_i g 45 k = 4
        · have t : y_std (ab_i g 45) k = true := by simp [y_std, zf, e4]
          rw [if_pos e4]
          simp only [t] at ih
          exact ih
        · have t : y_std (ab_i g 45) k = false := by
            unfold y_hold at hb
            unfold y_std zf
            rw [hb, decide_eq_false e4]
            rfl
          rw [if_neg e4]
          simp only [t] at ih
          exact ih
    · rw [if_neg e1]
      simp only [decide_eq_false e1, Bool.false_and] at ih
      exact ih
  | _, _, _, 0, h => absurd h (Nat.not_lt_zero _)
end TWO
