section GR
/-! how the class's heap h stands to the Model's heap g -/
def tw (N : Nat) (s : Nat → Int32) : Prop := N ≤ 8 ∧ s 6 = nI N ∧ (∃ a, a < 1024 ∧ s 0 = nI a) ∧ (∃ c, c ≤ 9999 ∧ s 1 = nI c) ∧ (∃ l, l < 3 ∧ s 3 = nI l) ∧ (∃ a, a < 100 ∧ s 4 = nI a) ∧ ∀ d, d < N → ∃ k w m p f, k < 8 ∧ w < 1024 ∧ m < 10 ∧ p < 100 ∧ f < 10 ∧ t_g s d 0 = nI k ∧ t_g s d 1 = nI w ∧ t_g s d 2 = nI m ∧ t_g s d 3 = nI p ∧ t_g s d 4 = nI f
def td (h : ab_HP) (t N : Nat) (s : Nat → Int32) : Prop := (ab_i h t 1 = s 6 ∧ ab_i h t 2 = s 0 ∧ ab_i h t 3 = s 1 ∧ ab_i h t 4 = s 3 ∧ ab_i h t 5 = s 4 ∧ ab_i h t 6 = s 5 ∧ ab_i h t 7 = s 2) ∧ ∀ d, d < N → ∃ r, ab_r h (t + 1) d = some r ∧ r < h.1 ∧ dk h r s d
def shd (h g : ab_HP) (d : Nat) : Prop :=
  (ab_i g 35 d = 0 ∧ ab_r h (15 + 2 * d) 1 = none ∧ ab_i h (15 + 2 * d) 2 = -1) ∨
  (ab_i g 35 d = 1 ∧ ab_i h (15 + 2 * d) 2 = -1 ∧ ∃ r, ab_r h (15 + 2 * d) 1 = some r ∧ 50 ≤ r ∧ r < h.1 ∧ ab_i h r 11 = ab_i g 39 d ∧ (if ab_i h r 13 = 0 then -15 else ab_i h r 12) = ab_i g 40 d) ∨
  (ab_i g 35 d = 2 ∧ ab_r h (15 + 2 * d) 1 = none ∧ ab_i h (15 + 2 * d) 2 = ab_i g 36 d ∧ (∃ o, o < 3 ∧ ab_i g 36 d = nI o) ∧ ab_i h (15 + 2 * d) 3 = ab_i g 37 d ∧ ∃ n, n ≤ 100 ∧ ab_i g 37 d = nI n ∧ ∀ k, k < n → ab_i h (16 + 2 * d) k = ab_i g 38 (100 * d + k))
def gr (h g : ab_HP) : Prop := cp h ∧ mp g ∧ 50 ≤ h.1 ∧ (∃ N, tw N (ab_i g 32) ∧ td h 1 N (ab_i g 32)) ∧ (ab_i h 0 9 = ab_i g 31 9 ∧ (ab_i g 31 9 = 0 ∨ (ab_i g 31 9 = 1 ∧ ∃ N, tw N (ab_i g 33) ∧ td h 3 N (ab_i g 33)))) ∧ ∀ d, d < 8 → shd h g d
/-- the same in all that the class has -/
def ceq (h h' : ab_HP) : Prop := h'.1 = h.1 ∧ ∀ r, r < 31 ∨ 50 ≤ r → ∀ k, ab_i h' r k = ab_i h r k ∧ ab_r h' r k = ab_r h r k
/-- the same in all that the Model has, and the law -/
def meq (g g' : ab_HP) : Prop := ∀ r, 31 ≤ r → r < 50 → ∀ k, ab_i g' r k = ab_i g r k ∧ ab_r g' r k = ab_r g r k ∧ ab_l g' r k = ab_l g r k
theorem ceq_refl (h : ab_HP) : ceq h h := ⟨rfl, fun _ _ _ => ⟨rfl, rfl⟩⟩
theorem meq_refl (h : ab_HP) : meq h h := fun _ _ _ _ => ⟨rfl, rfl, rfl⟩
theorem ceq.trans {a b c : ab_HP} (H : ceq a b) (G : ceq b c) : ceq a c := ⟨G.1.trans H.1, fun r hr k => ⟨(G.2 r hr k).1.trans (H.2 r hr k).1, (G.2 r hr k).2.trans (H.2 r hr k).2⟩⟩
theorem meq.trans {a b c : ab_HP} (H : meq a b) (G : meq b c) : meq a c := fun r h1 h2 k => ⟨(G r h1 h2 k).1.trans (H r h1 h2 k).1, (G r h1 h2 k).2.1.trans (H r h1 h2 k).2.1, (G r h1 h2 k).2.2.trans (H r h1 h2 k).2.2⟩
theorem dk.ceq {h h' : ab_HP} (H : ceq h h') {r : Nat} {s : Nat → Int32} {d : Nat} (K : dk h r s d) : dk h' r s d := by
  have e : ∀ k, ab_i h' r k = ab_i h r k := fun k => (H.2 r (Or.inr K.1) k).1
  unfold dk at K ⊢
  simp only [e]
  exact K
theorem td.ceq {h h' : ab_HP} (H : ceq h h') {t N : Nat} (ht : t < 30) {s : Nat → Int32} (K : td h t N s) : td h' t N s := by
  refine ⟨?_, fun d hd => ?_⟩
  · have e : ∀ k, ab_i h' t k = ab_i h t k := fun k => (H.2 t (Or.inl (by omega)) k).1
    simp only [e]
    exact K.1
  · obtain ⟨r, h1, h2, h3⟩ := K.2 d hd
    exact ⟨r, by rw [(H.2 (t + 1) (Or.inl (by omega)) d).2]; exact h1, by rw [H.1]; exact h2, h3.ceq H⟩
theorem gr.eq {h g h' g' : ab_HP} (H : gr h g) (hc : ceq h h') (hm : meq g g') : gr h' g' := by
  obtain ⟨a, b, c, d, e, f⟩ := H
  have e32 : ab_i g' 32 = ab_i g 32 := funext fun k => (hm 32 (by omega) (by omega) k).1
  have e33 : ab_i g' 33 = ab_i g 33 := funext fun k => (hm 33 (by omega) (by omega) k).1
  have e9 : ab_i g' 31 9 = ab_i g 31 9 := (hm 31 (by omega) (by omega) 9).1
  have eh9 : ab_i h' 0 9 = ab_i h 0 9 := (hc.2 0 (Or.inl (by omega)) 9).1
  refine ⟨?_, ?_, ?_, ?_, ?_, ?_⟩
  · intro r k v hv
    have : r < 31 := by
      unfold cp_tab at hv
      rcases Nat.lt_or_ge r 31 with q | q
      · exact q
      · exfalso
        rw [if_neg (by omega), if_neg (by omega), if_neg (by omega), if_neg (by omega), if_neg (by omega), if_neg (by omega), if_neg (by omega)] at hv
        cases hv
    rw [(hc.2 r (Or.inl this) k).2]
    exact a r k v hv
  · intro k
    rw [(hm 31 (by omega) (by omega) k).2.1]
    exact b k
  · rw [hc.1]; exact c
  · rw [e32]
    obtain ⟨N, h1, h2⟩ := d
    exact ⟨N, h1, h2.ceq hc (by omega)⟩
  · rw [e9, eh9, e33]
    refine ⟨e.1, ?_⟩
    rcases e.2 with q | ⟨q, N, h1, h2⟩
    · exact Or.inl q
    · exact Or.inr ⟨q, N, h1, h2.ceq hc (by omega)⟩
  · intro d hd
    have g1 : ∀ r, 31 ≤ r → r < 50 → ∀ k, ab_i g' r k = ab_i g r k := fun r h1 h2 k => (hm r h1 h2 k).1
    have c1 : ∀ r, r < 31 → ∀ k, ab_i h' r k = ab_i h r k := fun r h1 k => (hc.2 r (Or.inl h1) k).1
    have c2 : ∀ r, r < 31 → ∀ k, ab_r h' r k = ab_r h r k := fun r h1 k => (hc.2 r (Or.inl h1) k).2
    have F := f d hd
    unfold shd at F ⊢
    simp only [g1 35 (by omega) (by omega), g1 36 (by omega) (by omega), g1 37 (by omega) (by omega), g1 38 (by omega) (by omega), g1 39 (by omega) (by omega), g1 40 (by omega) (by omega), c1 (15 + 2 * d) (by omega), c1 (16 + 2 * d) (by omega), c2 (15 + 2 * d) (by omega), hc.1]
    rcases F with F | ⟨F1, F2, r, F3, F4, F5, F6, F7⟩ | F
    · exact Or.inl F
    · refine Or.inr (Or.inl ⟨F1, F2, r, F3, F4, F5, ?_, ?_⟩)
      · rw [(hc.2 r (Or.inr F4) 11).1]; exact F6
      · rw [(hc.2 r (Or.inr F4) 13).1, (hc.2 r (Or.inr F4) 12).1]; exact F7
    · exact Or.inr (Or.inr F)
/-- what is to be shown of a call: the same answer, the relation kept, each in its own -/
def callp {R : Type} (A B : ab_HP → Option (R × ab_HP)) : Prop := ∀ h g, gr h g → ∃ a h1 g1, A h = some (a, h1) ∧ B g = some (a, g1) ∧ meq h h1 ∧ ceq g g1 ∧ gr h1 g1
/-- the same of a call that changes nothing -/
def callq {R : Type} (A B : ab_HP → Option R) : Prop := ∀ h g, gr h g → ∃ a, A h = some a ∧ B g = some a
theorem callp_use {R : Type} {A B : ab_HP → Option (R × ab_HP)} (H : callp A B) {u : ab_HP} (hu : gr u u) : ∃ a v w, A u = some (a, v) ∧ B v = some (a, w) ∧ gr w w ∧ meq u v ∧ ceq v w := by
  obtain ⟨a, h1, g1, e1, e2, m1, c1, k1⟩ := H u u hu
  have k2 : gr u h1 := hu.eq (ceq_refl u) m1
  obtain ⟨a', h1', g1', e1', e2', m1', c1', k1'⟩ := H u h1 k2
  rw [e1] at e1'
  obtain ⟨rfl, rfl⟩ := Prod.mk.inj (Option.some.inj e1')
  exact ⟨a, h1, g1', e1, e2', k1'.eq c1' (meq_refl g1'), m1, c1'⟩
end GR
