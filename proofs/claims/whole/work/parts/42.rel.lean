section REL
/-! how the class's pair stands to the Model's: i places evened, those from j on dealt with in the odd year -/
def zf (F : Nat → Int32) (p : Nat) (k : Int32) : Bool := decide (F p = k)
def zr (i j : Nat) (u0 : Int32) (z : zS) (y : yS) : Prop :=
  (z.1 = y.1 ∧ z.2.1 = y.2.1 ∧ z.2.2.1 = y.2.2.1 ∧ y.2.2.2.1 = u0 + nI (fb_ct (bt z.2.2.2.2.1) 32)) ∧
  (∀ p, p < 32 → bt z.2.2.2.1 p = (decide (p < i) && !zf y.2.2.2.2.1 p 0) ∧ bt z.2.2.2.2.2.2.1 p = (decide (p < i) && (zf y.2.2.2.2.1 p 2 || zf y.2.2.2.2.1 p 3 || zf y.2.2.2.2.1 p 5)) ∧ bt z.2.2.2.2.1 p = (decide (p < i) && (zf y.2.2.2.2.1 p 5 || (zf y.2.2.2.2.1 p 1 && decide (j ≤ p)))) ∧ bt z.2.2.2.2.2.2.2.1 p = (decide (p < i) && zf y.2.2.2.2.1 p 5) ∧ (i ≤ p → bt z.2.2.2.2.2.1 p = false)) ∧
  (∀ p, p < i → (y.2.2.2.2.1 p = 0 ∨ y.2.2.2.2.1 p = 1 ∨ y.2.2.2.2.1 p = 2 ∨ y.2.2.2.2.1 p = 3 ∨ y.2.2.2.2.1 p = 4 ∨ y.2.2.2.2.1 p = 5) ∧ (y.2.2.2.2.1 p ≠ 0 → y.2.2.2.2.2.1 p = z.2.2.2.2.2.2.2.2.1 p ||| z.2.2.2.2.2.2.2.2.2 p ∧ y.2.2.2.2.2.2.1 p = z.2.2.2.2.2.2.2.2.2 p) ∧ (y.2.2.2.2.1 p = 4 → j ≤ p) ∧ (y.2.2.2.2.1 p = 2 → bt z.2.2.2.2.2.1 p = true) ∧ (y.2.2.2.2.1 p = 1 ∨ y.2.2.2.2.1 p = 3 ∨ y.2.2.2.2.1 p = 4 → bt z.2.2.2.2.2.1 p = false))
theorem bt_orp (x : Int32) {i p : Nat} (hi : i < 32) (hp : p < 32) : bt (x ||| pbit i) p = (bt x p || decide (p = i)) := by
  rw [b_or, bt_pbit hi hp]
theorem zc_or {x : Int32} {i : Nat} (hi : i < 32) (h : bt x i = false) : fb_ct (bt (x ||| pbit i)) 32 = fb_ct (bt x) 32 + 1 := by
  have e : fb_ct (bt (x ||| pbit i)) 32 = fb_ct (fun k => if k = i then true else bt x k) 32 := by
    apply fb_ct_cong
    intro k hk
    rw [bt_orp x hi hk]
    by_cases q : k = i
    · subst q; simp
    · simp [q]
  have := fb_ct_upd (bt x) true hi
  rw [h] at this
  simp only [Bool.false_eq_true, if_false, if_true, Nat.add_zero] at this
  omega
theorem zm_eq (so M L : Int32) : (so &&& (M ^^^ (-1))) ||| L = (so &&& ((M ||| L) ^^^ (-1))) ||| L := by
  apply b_ext
  intro j hj
  simp only [b_and, b_or, b_xor, b_m1 j hj]
  cases bt so j <;> cases bt M j <;> cases bt L j <;> rfl
theorem zx_eq (so t : Int32) : t ^^^ so = (t &&& (so ^^^ (-1))) ||| (so &&& (t ^^^ (-1))) := by
  apply b_ext
  intro j hj
  simp only [b_and, b_or, b_xor, b_m1 j hj]
  cases bt so j <;> cases bt t j <;> rfl
theorem za_eq (so t : Int32) : so &&& (t ^^^ so) = so &&& (t ^^^ (-1)) := by
  apply b_ext
  intro j hj
  simp only [b_and, b_or, b_xor, b_m1 j hj]
  cases bt so j <;> cases bt t j <;> rfl
theorem zmin_eq (c : Int32) : (if c < 9999 then c else 9999) = (if c ≤ 9999 then c else 9999) := by
  by_cases h : c < 9999
  · rw [if_pos h, if_pos (by rw [n_le]; rw [n_lt] at h; omega)]
  · rw [if_neg h]
    by_cases h2 : c ≤ 9999
    · rw [if_pos h2]
      rw [n_le] at h2
      rw [n_lt] at h
      rw [n_eq]
      omega
    · rw [if_neg h2]
/-- at the start of a pair -/
theorem zr_0 (m c : Int32) (u0 : Int32) (F C A B MD LS : Nat → Int32) (j : Nat) : zr 0 j u0 (m, c, 0, 0, 0, 0, 0, 0, MD, LS) (m, c, 0, u0, F, C, A, B) := by
  refine ⟨⟨rfl, rfl, rfl, ?_⟩, ?_, ?_⟩
  · have : fb_ct (bt (0 : Int32)) 32 = 0 := by
      rw [fb_ct_zero]; intro k _; exact b_0 k
    show u0 = u0 + nI (fb_ct (bt (0 : Int32)) 32)
    rw [this]
    show u0 = u0 + 0
    rw [Int32.add_zero]
  · intro p hp
    simp [b_0]
  · intro p hp
    exact absurd hp (Nat.not_lt_zero _)
theorem zf_upd (F : Nat → Int32) (i p : Nat) (v k : Int32) : zf (upd F i v) p k = if p = i then decide (v = k) else zf F p k := by
  unfold zf
  rw [upd_e]
  split <;> rfl
theorem zr_even1 {i j : Nat} (hi : i < 32) (hj : i < j) {u0 : Int32} {z : zS} {y : yS} (s : Nat → Int32) (li : Nat → Nat) (nails : Int32) (H : zr i j u0 z y) : zr (i + 1) j u0 (z_even1 s li nails i z) (y_even1 s li nails i y) := by
  obtain ⟨m, c, p, dn, un, nl, fm, fl, MD, LS⟩ := z
  obtain ⟨so, c', p', u, F, C, A, B⟩ := y
  obtain ⟨⟨e1, e2, e3, e4⟩, hb, hf⟩ := H
  simp only at e1 e2 e3 e4 hb hf
  subst e1 e2 e3
  simp only [z_even1, y_even1, y_nb_bt nails hi]
  have key : ∀ p, p ≠ i → (decide (p < i + 1) = decide (p < i)) := by
    intro p hp
    have : (p < i + 1) ↔ (p < i) := by omega
    simp [this]
  have bi := hb i hi
  simp only [Nat.lt_irrefl, decide_false, Bool.false_and] at bi
  by_cases hm : t_mayb s (li i) m c = true
  · simp only [hm, if_true]
    by_cases hq : bt nails i = true ∧ t_price s i ≤ c - t_cost s (li i)
    · simp only [hq, and_self, if_true]
      refine ⟨⟨rfl, rfl, rfl, e4⟩, ?_, ?_⟩
      · intro p hp
        have hbp := hb p hp
        by_cases e : p = i
        · subst e
          simp [bt_orp _ hi hp, zf_upd, bi]
        · simp only [bt_orp _ hi hp, zf_upd, key p e, e, if_false, decide_false, Bool.or_false]
          refine ⟨hbp.1, ?_, hbp.2.2.1, hbp.2.2.2.1, fun h => hbp.2.2.2.2 (by omega)⟩
          split
          · exact hbp.2.1
          · rw [bt_orp _ hi hp, decide_eq_false e, Bool.or_false]; exact hbp.2.1
      · intro p hp
        by_cases e : p = i
        · subst e
          simp only [upd_at, bt_orp _ hi hi]
          refine ⟨by simp, fun _ => ⟨zx_eq _ _, za_eq _ _⟩, by simp, by simp, by simp⟩
        · have hfp := hf p (by omega)
          simp only [upd_e, e, if_false, bt_orp _ hi (show p < 32 by omega), decide_false, Bool.or_false]
          exact hfp
    · simp only [hq, if_false]
      refine ⟨⟨rfl, rfl, rfl, e4⟩, ?_, ?_⟩
      · intro p hp
        have hbp := hb p hp
        by_cases e : p = i
        · subst e
          by_cases hk : t_kept s (li p) = 0
          · simp [hk, bt_orp _ hi hp, zf_upd, bi]
            omega
          · simp [hk, bt_orp _ hi hp, zf_upd, bi]
        · simp only [bt_orp _ hi hp, zf_upd, key p e, e, if_false, decide_false, Bool.or_false]
          refine ⟨hbp.1, ?_, hbp.2.2.1, hbp.2.2.2.1, fun h => hbp.2.2.2.2 (by omega)⟩
          split
          · exact hbp.2.1
          · rw [bt_orp _ hi hp, decide_eq_false e, Bool.or_false]; exact hbp.2.1
      · intro p hp
        by_cases e : p = i
        · subst e
          simp only [upd_at]
          refine ⟨?_, fun _ => ⟨zx_eq _ _, za_eq _ _⟩, ?_, ?_, fun _ => bi.2.2.2.2 (Nat.le_refl _)⟩
          · split <;> simp
          · split <;> simp
          · split <;> simp
        · have hfp := hf p (by omega)
          simp only [upd_e, e, if_false]
          exact hfp
  · simp only [if_neg hm]
    refine ⟨⟨rfl, rfl, rfl, e4⟩, ?_, ?_⟩
    · intro p hp
      have hbp := hb p hp
      by_cases e : p = i
      · subst e
        simp [zf_upd, bi]
      · simp only [zf_upd, key p e, e, if_false]
        exact ⟨hbp.1, hbp.2.1, hbp.2.2.1, hbp.2.2.2.1, fun h => hbp.2.2.2.2 (by omega)⟩
    · intro p hp
      by_cases e : p = i
      · subst e
        simp only [upd_at]
        refine ⟨by simp, by simp, by simp, by simp, by simp⟩
      · have hfp := hf p (by omega)
        simp only [upd_e, e, if_false]
        exact hfp
end REL
