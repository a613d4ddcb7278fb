section JDG
theorem y_even1_B (s : Nat → Int32) (li : Nat → Nat) (nails : Int32) (i : Nat) (y : yS) : (y_even1 s li nails i y).2.2.2.2.2.2.2 = upd y.2.2.2.2.2.2.2 i (y_even1 s li nails i y).1 := by
  obtain ⟨so, c, p, u, F, C, A, B⟩ := y
  rw [y_even1]
  split
  · split
    · rfl
    · rfl
  · rfl
theorem y_evens_B (s : Nat → Int32) (li : Nat → Nat) (nails : Int32) (y : yS) (i : Nat) : ∀ j, i < j → (y_evens s li nails j y).2.2.2.2.2.2.2 i = (y_evens s li nails (i + 1) y).1
  | 0, h => absurd h (Nat.not_lt_zero _)
  | j + 1, h => by
    rw [y_evens, y_even1_B, upd_e]
    by_cases e : i = j
    · subst e
      rw [if_pos rfl]
      rfl
    · rw [if_neg e]
      exact y_evens_B s li nails y i j (by omega)
theorem y_fallp_B (s : Nat → Int32) (li : Nat → Nat) : ∀ (k : Nat) (m : Bool) (y : yS), (y_fallp s li k m y).2.2.2.2.2.2.2.2 = y.2.2.2.2.2.2.2
  | 0, _, _ => rfl
  | k + 1, m, y => by
    rw [y_fallp]
    split
    · rw [y_fallp_B s li k]
      rfl
    · exact y_fallp_B s li k m y
theorem y_falls_B (s : Nat → Int32) (li : Nat → Nat) (n : Nat) : ∀ (f : Nat) (y : yS), (y_falls s li n f y).2.2.2.2.2.2.2 = y.2.2.2.2.2.2.2
  | 0, _ => rfl
  | f + 1, y => by
    rw [y_falls]
    split
    · rw [y_falls_B s li n f, y_fallp_B]
    · rw [y_fallp_B]
theorem y_odd1_B (s : Nat → Int32) (li : Nat → Nat) (n i : Nat) (y : yS) : (y_odd1 s li n i y).2.2.2.2.2.2.2 = y.2.2.2.2.2.2.2 := by
  unfold y_odd1
  split
  · split
    · rfl
    · split
      · rw [y_falls_B]; rfl
      · rfl
  · rfl
theorem y_odds_B (s : Nat → Int32) (li : Nat → Nat) (n : Nat) : ∀ (k : Nat) (y : yS), (y_odds s li n k y).2.2.2.2.2.2.2 = y.2.2.2.2.2.2.2
  | 0, _ => rfl
  | k + 1, y => by rw [y_odds, y_odds_B s li n k, y_odd1_B]
theorem y_pair_B (s : Nat → Int32) (li : Nat → Nat) (n : Nat) (nails : Int32) (y : yS) {i : Nat} (hi : i < n) : (y_pair s li n nails y).2.2.2.2.2.2.2 i = (y_evens s li nails (i + 1) y).1 := by
  unfold y_pair
  rw [y_odds_B]
  exact y_evens_B s li nails y i n hi
/-- the first that is told wrong -/
def jd (tv : Nat → Int32) (lst : Int32) (n : Nat) (ex : Nat → Int32) : Nat → Nat → Int32
  | 0, _ => -4
  | c + 1, i => if tv i = lst ∨ (i ≤ n ∧ tv i = ex i) then jd tv lst n ex c (i + 1) else nI i
theorem jd_cong {tv tv' : Nat → Int32} {lst : Int32} {n : Nat} {ex ex' : Nat → Int32} (he : ∀ i, i ≤ n → ex i = ex' i) : ∀ (c i : Nat), (∀ j, i ≤ j → j < i + c → tv j = tv' j) → jd tv lst n ex c i = jd tv' lst n ex' c i
  | 0, _, _ => rfl
  | c + 1, i, h => by
    rw [jd, jd, h i (Nat.le_refl _) (by omega), jd_cong he c (i + 1) (fun j h1 h2 => h j (by omega) (by omega))]
    by_cases q : i ≤ n
    · rw [he i q]
    · simp only [q, false_and]
def lsn (o : Int32) : Int32 := if o = 0 then -128 else if o = 1 then -32768 else -2147483648
theorem c_least (q : Nat) (h : ab_HP) : f_X6_leastNumber q h = some (lsn (ab_i h q 2)) := by
  unfold f_X6_leastNumber lsn
  split
  · rfl
  · split <;> rfl
theorem m_least (g : ab_HP) (hp : mp g) {d : Nat} (hd : d < 8) : f_X12_leastOf 31 (nI d) g = some (lsn (ab_i g 36 d)) := by
  have q8 : ab_in (nI d) 8 = true := in_nI hd (by decide)
  have qc : (nI d).toNatClampNeg = d := nI_clamp (by omega)
  unfold f_X12_leastOf lsn
  simp only [hp 4, mp_0, mp_1, mp_2, mp_3, mp_4, mp_5, mp_6, mp_7, mp_8, mp_16, mp_19, mp_20, mp_21, mp_22, mp_23, mp_32, mp_39, shp_2, shp_4, shp_6, shp_8, shp_9, shp_10, shp_11, shp_12, shp_13, shp_14, shp_32, shp_33, shp_34, shp_35, shp_36, shp_37, shp_38, shp_39, shp_40, shp_41, shp_42, shp_43, shp_44, shp_45, shp_46, shp_47, shp_48, shp_49, Option.bind_some, ab_let, Option.elim_some, Option.elim_none, q8, qc, if_true]
  split
  · rfl
  · split <;> rfl
theorem c_jb {w : ab_HP} (hc : cp w) {n e m i : Nat} (hn : n ≤ 16) (h5 : ab_i w 7 5 = nI n) (he : e < 8) (hm : m ≤ 100) (es : ab_i w (15 + 2 * e) 3 = nI m) (hi : i < m) (k23 : Option Nat → Int32 → Int32 → ab_HP → Option (Int32 × ab_HP)) (nails : Int32) (z : zS) : f_X11_firstWrong_b72 k23 0 (some (15 + 2 * e)) nails (nI i) (z_put w z) = if ab_i w (16 + 2 * e) i = lsn (ab_i w (15 + 2 * e) 2) ∨ (i ≤ n ∧ ab_i w (16 + 2 * e) i = z.1) then k23 (some (15 + 2 * e)) nails (nI (i + 1)) (z_put w z) else some (nI i, z_put w z) := by
  have cz : cp (z_put w z) := fun r k v hv => hc r k v hv
  have zs : ∀ k, ab_i (z_put w z) (15 + 2 * e) k = ab_i w (15 + 2 * e) k := fun k => z_oth w z k (by omega) (by omega) (by omega)
  have ze : ab_i (z_put w z) (16 + 2 * e) i = ab_i w (16 + 2 * e) i := z_oth w z i (by omega) (by omega) (by omega)
  have rd := c_rd cz he hm ((zs 3).trans es) hi
  rw [ze] at rd
  unfold f_X11_firstWrong_b72 f_X11_firstWrong_b102
  simp only [z_r, hc 0 0 1 rfl, hc 0 1 3 rfl, hc 0 2 5 rfl, hc 0 3 7 rfl, hc 0 4 11 rfl, hc 0 5 12 rfl, hc 0 6 13 rfl, hc 0 7 14 rfl, hc 1 0 2 rfl, hc 3 0 4 rfl, hc 5 0 6 rfl, hc 7 0 8 rfl, hc 7 1 9 rfl, hc 7 2 10 rfl, Option.bind_some, ab_let, Option.elim_some, Option.elim_none, z_a5, h5, z_a6, rd, c_least, zs, nI_1, one0, if_false, if_true]
  by_cases q : i ≤ n
  · have q2 : ¬ nI n < nI i := nI_nlt q (by omega)
    simp only [q2, if_false, q, true_and]
    by_cases a : ab_i w (16 + 2 * e) i = z.1
    · simp only [a, or_true, if_true]
    · by_cases b : ab_i w (16 + 2 * e) i = lsn (ab_i w (15 + 2 * e) 2)
      · simp only [a, b, true_or, if_true, if_false, ite_self]
      · simp only [a, b, or_self, if_false]
  · have q2 : nI n < nI i := nI_lt (by omega) (by omega)
    simp only [q2, if_true, q, false_and, or_false]
theorem c_jd {w : ab_HP} (hc : cp w) {n : Nat} {li : Nat → Nat} {s : Nat → Int32} (hl : cl w n li s) (ht : ct w s) (h4 : ab_i w 7 4 = s 3) {e m : Nat} (he : e < 8) (hm : m ≤ 100) (es : ab_i w (15 + 2 * e) 3 = nI m) (nails : Int32) (z0 : zS) : ∀ (c i : Nat) (z : zS), i + c = m → (i ≤ n → z = z_evens s li nails i z0) → ∀ f, c < f → ∃ z', f_X11_firstWrong_l23 0 f (some (15 + 2 * e)) nails (nI i) (z_put w z) = some (jd (ab_i w (16 + 2 * e)) (lsn (ab_i w (15 + 2 * e) 2)) n (fun j => if j < n then (z_evens s li nails (j + 1) z0).1 else (z_odds s li (s 3) n n (z_evens s li nails n z0)).1) c i, z_put w z')
  | 0, i, z, e1, hz, f + 1, _ => by
    have e1 : i = m := by omega
    subst e1
    have zs : ab_i (z_put w z) (15 + 2 * e) 3 = ab_i w (15 + 2 * e) 3 := z_oth w z 3 (by omega) (by omega) (by omega)
    rw [f_X11_firstWrong_l23]
    simp only [Option.bind_some, ab_let, Option.elim_some, Option.elim_none, zs, es]
    rw [if_pos (nI_le (Nat.le_refl _) (by omega))]
    exact ⟨z, rfl⟩
  | c + 1, i, z, e1, hz, f + 1, hf => by
    have hn := hl.1
    have zs : ab_i (z_put w z) (15 + 2 * e) 3 = ab_i w (15 + 2 * e) 3 := z_oth w z 3 (by omega) (by omega) (by omega)
    have q : ¬ nI m ≤ nI i := nI_ge (by omega) (by omega)
    rw [f_X11_firstWrong_l23]
    simp only [Option.bind_some, ab_let, Option.elim_some, Option.elim_none, zs, es, q, if_false, z_r, hc 0 0 1 rfl, hc 0 1 3 rfl, hc 0 2 5 rfl, hc 0 3 7 rfl, hc 0 4 11 rfl, hc 0 5 12 rfl, hc 0 6 13 rfl, hc 0 7 14 rfl, hc 1 0 2 rfl, hc 3 0 4 rfl, hc 5 0 6 rfl, hc 7 0 8 rfl, hc 7 1 9 rfl, hc 7 2 10 rfl, z_a5, hl.2.1]
    by_cases a : i < n
    · have q2 : ¬ nI n ≤ nI i := nI_ge a (by omega)
      simp only [q2, if_false, c_even1 hc hl ht a, Option.bind_some]
      rw [c_jb hc hn hl.2.1 he hm es (show i < m by omega), jd]
      have ez : z_even1 s li nails i z = z_evens s li nails (i + 1) z0 := by rw [hz (by omega)]; rfl
      rw [ez]
      simp only [a, if_true]
      by_cases b : ab_i w (16 + 2 * e) i = lsn (ab_i w (15 + 2 * e) 2) ∨ (i ≤ n ∧ ab_i w (16 + 2 * e) i = (z_evens s li nails (i + 1) z0).1)
      · rw [if_pos b, if_pos b]
        exact c_jd hc hl ht h4 he hm es nails z0 c (i + 1) _ (by omega) (fun _ => rfl) f (by omega)
      · rw [if_neg b, if_neg b]
        exact ⟨_, rfl⟩
    · have q2 : nI n ≤ nI i := nI_le (by omega) (by omega)
      simp only [q2, if_true]
      by_cases b : i = n
      · subst b
        have ez := hz (Nat.le_refl _)
        subst ez
        simp only [if_true, c_odd hc hl, Option.bind_some, h4]
        rw [c_jb hc hn hl.2.1 he hm es (show i < m by omega), jd]
        simp only [Nat.lt_irrefl, if_false]
        by_cases b : ab_i w (16 + 2 * e) i = lsn (ab_i w (15 + 2 * e) 2) ∨ (i ≤ i ∧ ab_i w (16 + 2 * e) i = (z_odds s li (s 3) i i (z_evens s li nails i z0)).1)
        · rw [if_pos b, if_pos b]
          exact c_jd hc hl ht h4 he hm es nails z0 c (i + 1) _ (by omega) (fun x => by omega) f (by omega)
        · rw [if_neg b, if_neg b]
          exact ⟨_, rfl⟩
      · have q3 : ¬ nI i = nI n := fun x => b ((nI_eq (by omega) (by omega)).mp x)
        simp only [q3, if_false]
        rw [c_jb hc hn hl.2.1 he hm es (show i < m by omega), jd]
        have q4 : ¬ i ≤ n := by omega
        simp only [q4, false_and, or_false]
        by_cases b : ab_i w (16 + 2 * e) i = lsn (ab_i w (15 + 2 * e) 2)
        · rw [if_pos b, if_pos b]
          exact c_jd hc hl ht h4 he hm es nails z0 c (i + 1) _ (by omega) (fun x => by omega) f (by omega)
        · rw [if_neg b, if_neg b]
          exact ⟨_, rfl⟩
  | _, _, _, _, _, 0, h => absurd h (Nat.not_lt_zero _)
theorem m_jd (g : ab_HP) (hp : mp g) {n e m : Nat} (hn : n ≤ 16) (h24 : ab_i g 31 24 = nI n) (he : e < 8) (hm : m ≤ 100) (es : ab_i g 37 e = nI m) : ∀ (c i : Nat), i + c = m → ∀ f, c < f → f_X12_judge_l64 31 f (nI e) (nI i) g = some (jd (g_el g e) (lsn (ab_i g 36 e)) n (fun j => if j < n then ab_i g 46 j else ab_i g 31 26) c i, g)
  | 0, i, e1, f + 1, _ => by
    have e1 : i = m := by omega
    subst e1
    have q8 : ab_in (nI e) 8 = true := in_nI he (by decide)
    have qc : (nI e).toNatClampNeg = e := nI_clamp (by omega)
    rw [f_X12_judge_l64]
    simp only [Option.bind_some, ab_let, Option.elim_some, Option.elim_none, hp 5, mp_0, mp_1, mp_2, mp_3, mp_4, mp_5, mp_6, mp_7, mp_8, mp_16, mp_19, mp_20, mp_21, mp_22, mp_23, mp_32, mp_39, shp_2, shp_4, shp_6, shp_8, shp_9, shp_10, shp_11, shp_12, shp_13, shp_14, shp_32, shp_33, shp_34, shp_35, shp_36, shp_37, shp_38, shp_39, shp_40, shp_41, shp_42, shp_43, shp_44, shp_45, shp_46, shp_47, shp_48, shp_49, q8, qc, if_true, es]
    rw [if_pos (nI_le (Nat.le_refl _) (by omega))]
    rfl
  | c + 1, i, e1, f + 1, hf => by
    have q8 : ab_in (nI e) 8 = true := in_nI he (by decide)
    have qc : (nI e).toNatClampNeg = e := nI_clamp (by omega)
    have q : ¬ nI m ≤ nI i := nI_ge (by omega) (by omega)
    have a1 : (100 : Int32) * nI e + nI i = nI (100 * e + i) := by rw [n_lit 100, nI_mul, nI_add]
    have b1 : ab_in (nI (100 * e + i)) 800 = true := in_nI (by omega) (by decide)
    have c1 : (nI (100 * e + i)).toNatClampNeg = 100 * e + i := nI_clamp (by omega)
    have ih := m_jd g hp hn h24 he hm es c (i + 1) (by omega) f (by omega)
    rw [f_X12_judge_l64]
    simp only [Option.bind_some, ab_let, Option.elim_some, Option.elim_none, hp 5, hp 6, hp 23, mp_0, mp_1, mp_2, mp_3, mp_4, mp_5, mp_6, mp_7, mp_8, mp_16, mp_19, mp_20, mp_21, mp_22, mp_23, mp_32, mp_39, shp_2, shp_4, shp_6, shp_8, shp_9, shp_10, shp_11, shp_12, shp_13, shp_14, shp_32, shp_33, shp_34, shp_35, shp_36, shp_37, shp_38, shp_39, shp_40, shp_41, shp_42, shp_43, shp_44, shp_45, shp_46, shp_47, shp_48, shp_49, q8, qc, if_true, es, q, if_false, a1, b1, c1, m_least g hp he, h24, nI_1, ih, jd, show ab_i g 38 (100 * e + i) = g_el g e i from rfl]
    by_cases l : g_el g e i = lsn (ab_i g 36 e)
    · rw [if_pos l, if_pos (Or.inl l)]
    · rw [if_neg l]
      by_cases a : i < n
      · have q2 : ¬ nI n < nI i := nI_nlt (by omega) (by omega)
        have q3 : ¬ nI n ≤ nI i := nI_ge a (by omega)
        have b2 : ab_in (nI i) 16 = true := in_nI (by omega) (by decide)
        have c2 : (nI i).toNatClampNeg = i := nI_clamp (by omega)
        simp only [q2, q3, if_false, b2, c2, if_true, a]
        by_cases b : g_el g e i = ab_i g 46 i
        · rw [if_pos b, if_pos (Or.inr ⟨by omega, b⟩)]
        · rw [if_neg b, if_neg (fun x => x.elim l (fun y => b y.2))]
      · by_cases b : i = n
        · have q2 : ¬ nI n < nI i := nI_nlt (by omega) (by omega)
          have q3 : nI n ≤ nI i := nI_le (by omega) (by omega)
          simp only [q2, q3, if_false, if_true, a]
          by_cases b2 : g_el g e i = ab_i g 31 26
          · rw [if_pos b2, if_pos (Or.inr ⟨by omega, b2⟩)]
          · rw [if_neg b2, if_neg (fun x => x.elim l (fun y => b2 y.2))]
        · have q2 : nI n < nI i := nI_lt (by omega) (by omega)
          simp only [q2, if_true]
          rw [if_neg (fun x => x.elim l (fun y => absurd y.1 (by omega)))]
  | _, _, _, 0, h => absurd h (Nat.not_lt_zero _)
end JDG
