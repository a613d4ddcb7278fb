section IMS
/-- a town that has become another stands for what the other stood for -/
theorem td_bec {h u : ab_HP} {t o N : Nat} (ho : o ≠ t) (htr : t < 15) (hN : N ≤ 8) (u1 : u.1 = h.1) (ui : ∀ r k, ab_i u r k = if r = t ∧ 1 ≤ k ∧ k ≤ 7 then ab_i h o k else ab_i h r k) (ur : ∀ r k, ab_r u r k = if r = t + 1 ∧ k < 8 then (if k < N then ab_r h (o + 1) k else none) else ab_r h r k) {s s' : Nat → Int32} (e : ∀ k, k < 47 → s' k = s k) (H : td h o N s) : td u t N s' := by
  obtain ⟨⟨a1, a2, a3, a4, a5, a6, a7⟩, b⟩ := H
  refine ⟨⟨?_, ?_, ?_, ?_, ?_, ?_, ?_⟩, ?_⟩
  · rw [ui, if_pos (by omega), e 6 (by decide)]; exact a1
  · rw [ui, if_pos (by omega), e 0 (by decide)]; exact a2
  · rw [ui, if_pos (by omega), e 1 (by decide)]; exact a3
  · rw [ui, if_pos (by omega), e 3 (by decide)]; exact a4
  · rw [ui, if_pos (by omega), e 4 (by decide)]; exact a5
  · rw [ui, if_pos (by omega), e 5 (by decide)]; exact a6
  · rw [ui, if_pos (by omega), e 2 (by decide)]; exact a7
  · intro d hd
    obtain ⟨r, q1, q2, q3⟩ := b d hd
    refine ⟨r, ?_, by omega, ?_⟩
    · rw [ur, if_pos (by omega), if_pos hd]; exact q1
    · exact dk_heap (fun k => by rw [ui, if_neg (by have := q3.1; omega)]) (dk_47 e (by omega) q3)
/-- a town that isn't touched -/
theorem td_same {h u : ab_HP} {t N : Nat} {s s' : Nat → Int32} (hN : N ≤ 8) (u1 : h.1 ≤ u.1) (ei : ∀ k, ab_i u t k = ab_i h t k) (er : ∀ k, ab_r u (t + 1) k = ab_r h (t + 1) k) (ed : ∀ r, 50 ≤ r → r < h.1 → ∀ k, ab_i u r k = ab_i h r k) (e : ∀ k, k < 47 → s' k = s k) (H : td h t N s) : td u t N s' := by
  refine ⟨?_, ?_⟩
  · simp only [ei, e 0 (by decide), e 1 (by decide), e 2 (by decide), e 3 (by decide), e 4 (by decide), e 5 (by decide), e 6 (by decide)]
    exact H.1
  · intro d hd
    obtain ⟨r, q1, q2, q3⟩ := H.2 d hd
    exact ⟨r, by rw [er]; exact q1, by omega, dk_heap (ed r q3.1 q2) (dk_47 e (by omega) q3)⟩
theorem shd_same {h g u w : ab_HP} {d : Nat} (hd : d < 8) (u1 : h.1 ≤ u.1) (ei : ∀ r k, 15 ≤ r → r < 31 ∨ (50 ≤ r ∧ r < h.1) → ab_i u r k = ab_i h r k) (er : ab_r u (15 + 2 * d) 1 = ab_r h (15 + 2 * d) 1) (eg : ∀ r k, 35 ≤ r → r ≤ 40 → ab_i w r k = ab_i g r k) (F : shd h g d) : shd u w d := by
  unfold shd at F ⊢
  simp only [eg 35 _ (by omega) (by omega), eg 36 _ (by omega) (by omega), eg 37 _ (by omega) (by omega), eg 38 _ (by omega) (by omega), eg 39 _ (by omega) (by omega), eg 40 _ (by omega) (by omega), ei (15 + 2 * d) _ (by omega) (Or.inl (by omega)), ei (16 + 2 * d) _ (by omega) (Or.inl (by omega)), er]
  rcases F with F | ⟨F1, F2, r, F3, F4, F5, F6, F7⟩ | F
  · exact Or.inl F
  · refine Or.inr (Or.inl ⟨F1, F2, r, F3, F4, by omega, ?_, ?_⟩)
    · rw [ei r 11 (by omega) (Or.inr ⟨F4, F5⟩)]; exact F6
    · rw [ei r 13 (by omega) (Or.inr ⟨F4, F5⟩), ei r 12 (by omega) (Or.inr ⟨F4, F5⟩)]; exact F7
  · exact Or.inr (Or.inr F)
theorem cp_same {h u : ab_HP} (er : ∀ r k, r < 31 → r ≠ 2 → r ≠ 4 → r ≠ 6 → r ≠ 8 → ¬ (r = 7 ∧ k = 3) → ab_r u r k = ab_r h r k) (hc : cp h) : cp u := by
  intro r k v hv
  have q : r < 31 ∧ r ≠ 2 ∧ r ≠ 4 ∧ r ≠ 6 ∧ r ≠ 8 ∧ ¬ (r = 7 ∧ k = 3) := by
    unfold cp_tab at hv
    refine ⟨?_, ?_, ?_, ?_, ?_, ?_⟩
    · rcases Nat.lt_or_ge r 31 with q | q
      · exact q
      · exfalso
        rw [if_neg (by omega), if_neg (by omega), if_neg (by omega), if_neg (by omega), if_neg (by omega), if_neg (by omega), if_neg (by omega)] at hv
        cases hv
    · rintro rfl
      rw [if_neg (by omega), if_neg (by omega), if_neg (by omega), if_neg (by omega), if_neg (by omega), if_neg (by omega), if_neg (by omega)] at hv
      cases hv
    · rintro rfl
      rw [if_neg (by omega), if_neg (by omega), if_neg (by omega), if_neg (by omega), if_neg (by omega), if_neg (by omega), if_neg (by omega)] at hv
      cases hv
    · rintro rfl
      rw [if_neg (by omega), if_neg (by omega), if_neg (by omega), if_neg (by omega), if_neg (by omega), if_neg (by omega), if_neg (by omega)] at hv
      cases hv
    · rintro rfl
      rw [if_neg (by omega), if_neg (by omega), if_neg (by omega), if_neg (by omega), if_neg (by omega), if_neg (by omega), if_neg (by omega)] at hv
      cases hv
    · rintro ⟨rfl, rfl⟩
      rw [if_neg (by omega), if_neg (by omega), if_neg (by omega), if_neg (by omega), if_neg (by omega), if_neg (by omega), if_neg (by omega)] at hv
      cases hv
  rw [er r k q.1 q.2.1 q.2.2.1 q.2.2.2.1 q.2.2.2.2.1 q.2.2.2.2.2]
  exact hc r k v hv
theorem p_image : callp (f_X11_image 0) (f_X12_image 31) := by
  rintro h g ⟨hc, hp, h50, ⟨N, ht, hd⟩, hi, hs⟩
  have hN := ht.1
  obtain ⟨u, e1, u1, ui, ur, ul⟩ := c_become (t := 3) (o := 1) (h := h) (by decide) (by decide) hN shp_4 shp_2 (hc 3 0 4 rfl) (hc 1 0 2 rfl) (hd.1.1.trans ht.2.1)
  have mi := m_image 47 0 g hp (by omega) 1000 (by omega)
  rw [show nI 0 = 0 from rfl] at mi
  have ur0 : ab_r u 0 0 = some 1 := by rw [ur, if_neg (by omega)]; exact hc 0 0 1 rfl
  unfold f_X11_image f_X12_image
  simp only [hc 0 0 1 rfl, hc 0 1 3 rfl, hc 0 2 5 rfl, hc 0 3 7 rfl, hc 0 4 11 rfl, hc 0 5 12 rfl, hc 0 6 13 rfl, hc 0 7 14 rfl, hc 1 0 2 rfl, hc 3 0 4 rfl, hc 5 0 6 rfl, hc 7 0 8 rfl, hc 7 1 9 rfl, hc 7 2 10 rfl, Option.bind_some, ab_let, Option.elim_some, Option.elim_none, e1, mi, hr_ip, ur0]
  have s32 : ∀ k, ab_i (hk 32 33 47 0 g) 32 k = ab_i g 32 k := fun k => by rw [hk_i (by decide), if_neg (by omega)]
  refine ⟨_, _, ab_ip (hk 32 33 47 0 g) 31 9 1, rfl, ?_, ?_, ?_, ?_⟩
  · rw [s32, hi_ip, if_neg (by omega), ui, if_neg (by omega), hd.1.2.2.2.2.2.2]
  · intro r h1 h2 k
    refine ⟨?_, ?_, ?_⟩
    · rw [hi_ip, if_neg (by omega), ui, if_neg (by omega)]
    · rw [hr_ip, ur, if_neg (by omega)]
    · rw [hl_ip, ul]
  · refine ⟨by rw [h1_ip, hk_1], fun r hr k => ⟨?_, ?_⟩⟩
    · rw [hi_ip, if_neg (by omega), hk_i (by decide), if_neg (by omega)]
    · rw [hr_ip, hk_r]
  · have g32 : ∀ k, ab_i (ab_ip (hk 32 33 47 0 g) 31 9 1) 32 k = ab_i g 32 k := fun k => by rw [hi_ip, if_neg (by omega), s32]
    have g33 : ∀ k, k < 47 → ab_i (ab_ip (hk 32 33 47 0 g) 31 9 1) 33 k = ab_i g 32 k := fun k hk47 => by rw [hi_ip, if_neg (by omega), hk_i (by decide), if_pos (by omega)]
    refine ⟨?_, ?_, ?_, ⟨N, tw_c47 (fun k _ => g32 k) ht, ?_⟩, ⟨?_, Or.inr ⟨?_, N, tw_c47 g33 ht, ?_⟩⟩, ?_⟩
    · refine cp_same ?_ hc
      intro r k q1 q2 q3 q4 q5 q6
      rw [hr_ip, ur, if_neg (by omega)]
    · intro k
      rw [hr_ip, hk_r]
      exact hp k
    · show 50 ≤ u.1
      omega
    · refine td_same hN (by show h.1 ≤ u.1; omega) ?_ ?_ ?_ (fun k _ => g32 k) hd
      · intro k
        rw [hi_ip, if_neg (by omega), ui, if_neg (by omega)]
      · intro k
        rw [hr_ip, ur, if_neg (by omega)]
      · intro r q1 q2 k
        rw [hi_ip, if_neg (by omega), ui, if_neg (by omega)]
    · rw [hi_ip, if_pos ⟨rfl, rfl⟩, hi_ip, if_pos ⟨rfl, rfl⟩]
    · rw [hi_ip, if_pos ⟨rfl, rfl⟩]
    · have K := td_bec (u := u) (t := 3) (by decide) (by decide) hN u1 ui ur g33 hd
      refine td_same (h := u) hN (by rw [h1_ip]; exact Nat.le_refl _) ?_ (fun k => rfl) ?_ (fun k _ => rfl) K
      · intro k
        rw [hi_ip, if_neg (by omega)]
      · intro r q1 q2 k
        rw [hi_ip, if_neg (by omega)]
    · intro d hd8
      refine shd_same hd8 (by show h.1 ≤ u.1; omega) ?_ ?_ ?_ (hs d hd8)
      · intro r k q1 q2
        rw [hi_ip, if_neg (by omega), ui, if_neg (by omega)]
      · rw [hr_ip, ur, if_neg (by omega)]
      · intro r k q1 q2
        rw [hi_ip, if_neg (by omega), hk_i (by decide), if_neg (by omega)]
theorem p_restore : callp (f_X11_restore 0) (f_X12_restore 31) := by
  intro h g H0
  have H := H0
  obtain ⟨hc, hp, h50, ⟨N0, ht0, hd0⟩, hi, hs⟩ := H
  unfold f_X11_restore f_X12_restore
  rcases hi.2 with q | ⟨q, N, ht, hd⟩
  · have q' : ab_i h 0 9 = 0 := hi.1.trans q
    simp only [q, q', if_true]
    exact ⟨_, _, _, rfl, rfl, meq_refl h, ceq_refl g, H0⟩
  · have q' : ab_i h 0 9 = 1 := hi.1.trans q
    have hN := ht.1
    obtain ⟨u, e1, u1, ui, ur, ul⟩ := c_become (t := 1) (o := 3) (h := h) (by decide) (by decide) hN shp_2 shp_4 (hc 1 0 2 rfl) (hc 3 0 4 rfl) (hd.1.1.trans ht.2.1)
    have mi := m_restore 47 0 g hp (by omega) 1000 (by omega)
    rw [show nI 0 = 0 from rfl] at mi
    have ur0 : ab_r u 0 0 = some 1 := by rw [ur, if_neg (by omega)]; exact hc 0 0 1 rfl
    simp only [q, q', one0, if_false, hc 0 0 1 rfl, hc 0 1 3 rfl, hc 0 2 5 rfl, hc 0 3 7 rfl, hc 0 4 11 rfl, hc 0 5 12 rfl, hc 0 6 13 rfl, hc 0 7 14 rfl, hc 1 0 2 rfl, hc 3 0 4 rfl, hc 5 0 6 rfl, hc 7 0 8 rfl, hc 7 1 9 rfl, hc 7 2 10 rfl, Option.bind_some, ab_let, Option.elim_some, Option.elim_none, e1, mi, ur0]
    have g32 : ∀ k, k < 47 → ab_i (hk 33 32 47 0 g) 32 k = ab_i g 33 k := fun k hk47 => by rw [hk_i (by decide), if_pos (by omega)]
    have g33 : ∀ k, ab_i (hk 33 32 47 0 g) 33 k = ab_i g 33 k := fun k => by rw [hk_i (by decide), if_neg (by omega)]
    have g9 : ab_i (hk 33 32 47 0 g) 31 9 = ab_i g 31 9 := by rw [hk_i (by decide), if_neg (by omega)]
    refine ⟨_, _, hk 33 32 47 0 g, rfl, ?_, ?_, ?_, ?_⟩
    · rw [g32 2 (by decide), ui, if_pos (by omega), hd.1.2.2.2.2.2.2]
    · intro r h1 h2 k
      refine ⟨?_, ?_, ?_⟩
      · rw [ui, if_neg (by omega)]
      · rw [ur, if_neg (by omega)]
      · rw [ul]
    · refine ⟨by rw [hk_1], fun r hr k => ⟨?_, ?_⟩⟩
      · rw [hk_i (by decide), if_neg (by omega)]
      · rw [hk_r]
    · refine ⟨?_, ?_, ?_, ⟨N, tw_c47 g32 ht, ?_⟩, ⟨?_, Or.inr ⟨?_, N, tw_c47 (fun k _ => g33 k) ht, ?_⟩⟩, ?_⟩
      · refine cp_same ?_ hc
        intro r k q1 q2 q3 q4 q5 q6
        rw [ur, if_neg (by omega)]
      · intro k
        rw [hk_r]
        exact hp k
      · omega
      · exact td_bec (t := 1) (by decide) (by decide) hN u1 ui ur g32 hd
      · rw [g9, ui, if_neg (by omega)]; exact hi.1
      · rw [g9]; exact q
      · refine td_same hN (by omega) ?_ ?_ ?_ (fun k _ => g33 k) hd
        · intro k
          rw [ui, if_neg (by omega)]
        · intro k
          rw [ur, if_neg (by omega)]
        · intro r q1 q2 k
          rw [ui, if_neg (by omega)]
      · intro d hd8
        refine shd_same hd8 (by omega) ?_ ?_ ?_ (hs d hd8)
        · intro r k q1 q2
          rw [ui, if_neg (by omega)]
        · rw [ur, if_neg (by omega)]
        · intro r k q1 q2
          rw [hk_i (by decide), if_neg (by omega)]
end IMS
