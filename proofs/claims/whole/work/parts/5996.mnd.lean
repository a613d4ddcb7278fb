section MND
/-! what may change in mind alone, on the class's side and on the Model's -/
def hm (h w : ab_HP) : Prop := w.1 = h.1 ∧ (∀ r k, (r = 1 ∨ r = 3 ∨ (r = 0 ∧ k = 9) ∨ 15 ≤ r) → ab_i w r k = ab_i h r k) ∧ (∀ r k, r ≠ 6 → r ≠ 8 → ¬ (r = 7 ∧ k = 3) → ab_r w r k = ab_r h r k) ∧ ∀ r k, ab_l w r k = ab_l h r k
def gm (g v : ab_HP) : Prop := v.1 = g.1 ∧ (∀ r k, (r < 31 ∨ (r = 31 ∧ k = 9) ∨ r = 32 ∨ r = 33 ∨ (35 ≤ r ∧ r ≤ 40) ∨ 50 ≤ r) → ab_i v r k = ab_i g r k) ∧ ∀ r k, ab_r v r k = ab_r g r k
theorem hm_refl (h : ab_HP) : hm h h := ⟨rfl, fun _ _ _ => rfl, fun _ _ _ _ _ => rfl, fun _ _ => rfl⟩
theorem gm_refl (g : ab_HP) : gm g g := ⟨rfl, fun _ _ _ => rfl, fun _ _ => rfl⟩
theorem hm.trans {a b c : ab_HP} (H : hm a b) (G : hm b c) : hm a c := ⟨G.1.trans H.1, fun r k q => (G.2.1 r k q).trans (H.2.1 r k q), fun r k q1 q2 q3 => (G.2.2.1 r k q1 q2 q3).trans (H.2.2.1 r k q1 q2 q3), fun r k => (G.2.2.2 r k).trans (H.2.2.2 r k)⟩
theorem gm.trans {a b c : ab_HP} (H : gm a b) (G : gm b c) : gm a c := ⟨G.1.trans H.1, fun r k q => (G.2.1 r k q).trans (H.2.1 r k q), fun r k => (G.2.2 r k).trans (H.2.2 r k)⟩
theorem hm.meq {h w : ab_HP} (H : hm h w) : meq h w := fun r h1 h2 k => ⟨H.2.1 r k (by omega), H.2.2.1 r k (by omega) (by omega) (by omega), H.2.2.2 r k⟩
theorem gm.ceq {g v : ab_HP} (H : gm g v) : ceq g v := ⟨H.1, fun r hr k => ⟨H.2.1 r k (by omega), H.2.2 r k⟩⟩
theorem hm_ip {h : ab_HP} {r k : Nat} {v : Int32} (q : ¬ (r = 1 ∨ r = 3 ∨ (r = 0 ∧ k = 9) ∨ 15 ≤ r)) : hm h (ab_ip h r k v) := ⟨rfl, fun a b e => by rw [hi_ip, if_neg (by omega)], fun _ _ _ _ _ => rfl, fun _ _ => rfl⟩
theorem gm_ip {g : ab_HP} {r k : Nat} {v : Int32} (q : ¬ (r < 31 ∨ (r = 31 ∧ k = 9) ∨ r = 32 ∨ r = 33 ∨ (35 ≤ r ∧ r ≤ 40) ∨ 50 ≤ r)) : gm g (ab_ip g r k v) := ⟨rfl, fun a b e => by rw [hi_ip, if_neg (by omega)], fun _ _ => rfl⟩
theorem gm_lp {g : ab_HP} {r k : Nat} {v : Int64} : gm g (ab_lp g r k v) := ⟨rfl, fun _ _ _ => rfl, fun _ _ => rfl⟩
theorem hm_z (h : ab_HP) (z : zS) : hm h (z_put h z) := ⟨rfl, fun r k q => z_oth h z k (by omega) (by omega) (by omega), fun _ _ _ _ _ => rfl, fun _ _ => rfl⟩
theorem gm_y (g : ab_HP) (y : yS) : gm g (y_put g y) := by
  refine ⟨rfl, fun r k q => ?_, fun _ _ => rfl⟩
  by_cases e : r = 31
  · subst e
    exact y_31 g y (by omega) (by omega) (by omega) (by omega)
  · exact y_oth g y k e (by omega) (by omega) (by omega) (by omega)
theorem gm.s32 {g v : ab_HP} (B : gm g v) : ab_i v 32 = ab_i g 32 := funext fun k => B.2.1 32 k (by omega)
theorem gm.mp {g v : ab_HP} (B : gm g v) (hp : mp g) : mp v := fun k => by rw [B.2.2]; exact hp k
theorem hm.cp {h w : ab_HP} (A : hm h w) (hc : cp h) : cp w := cp_same (fun r k _ _ _ h6 h8 h7 => A.2.2.1 r k h6 h8 h7) hc
theorem gr_mind {h g w v : ab_HP} (H : gr h g) (A : hm h w) (B : gm g v) : gr w v := by
  have H0 := H
  obtain ⟨hc, hp, h50, ⟨N, ht, hd⟩, hi, hs⟩ := H
  obtain ⟨d1, d2, d3, d4, d5, d6, d7⟩ := hd.1
  have b := B.s32
  have a1 : ∀ k, ab_i w 1 k = ab_i h 1 k := fun k => A.2.1 1 k (by omega)
  refine gr_town H0 (by rw [A.1]; exact Nat.le_refl _) (fun r k _ h6 h8 h7 => A.2.2.1 r k h6 h8 h7) (fun r k h1 _ => A.2.1 r k (by omega)) (A.2.1 0 9 (by omega)) (B.mp hp) (B.2.1 31 9 (by omega)) (fun k => B.2.1 33 k (by omega)) (fun r h1 h2 k => B.2.1 r k (by omega)) (fun k _ => B.2.1 32 k (by omega)) (a1 1) ?_ ?_ ?_ ?_ ?_ ?_ ?_ ?_ ?_ ?_
  · rw [a1, b]; exact d2
  · rw [a1, b]; exact d3
  · rw [a1, b]; exact d4
  · rw [a1, b]; exact d5
  · rw [a1, b]; exact d6
  · rw [a1, b]; exact d7
  · rw [b]; exact ht.2.2.1
  · rw [b]; exact ht.2.2.2.1
  · rw [b]; exact ht.2.2.2.2.1
  · rw [b]; exact ht.2.2.2.2.2.1
theorem hm_take {h w : ab_HP} (w1 : w.1 = h.1) (wi : ∀ r j, ¬ (r = 7 ∧ (j = 4 ∨ j = 5)) → ab_i w r j = ab_i h r j) (wr : ∀ r j, r ≠ 8 → ¬ (r = 7 ∧ j = 3) → ab_r w r j = ab_r h r j) (wl : ∀ r j, ab_l w r j = ab_l h r j) : hm h w := ⟨w1, fun r k q => wi r k (by omega), fun r k _ h8 h7 => wr r k h8 h7, wl⟩
theorem gr_ip3 {h g : ab_HP} (H : gr h g) {a c yr : Int32} (ha : ∃ x, x < 1024 ∧ a = nI x) (hc' : ∃ x, x ≤ 9999 ∧ c = nI x) : gr (ab_ip (ab_ip (ab_ip h 1 2 a) 1 3 c) 1 7 yr) (ab_ip (ab_ip (ab_ip g 32 0 a) 32 1 c) 32 2 yr) := by
  have H0 := H
  obtain ⟨hc, hp, h50, ⟨N, ht, hd⟩, hi, hs⟩ := H
  obtain ⟨d1, d2, d3, d4, d5, d6, d7⟩ := hd.1
  have a0 : ∀ r k, ¬ (r = 1 ∧ (k = 2 ∨ k = 3 ∨ k = 7)) → ab_i (ab_ip (ab_ip (ab_ip h 1 2 a) 1 3 c) 1 7 yr) r k = ab_i h r k := fun r k q => by rw [hi_ip, if_neg (by omega), hi_ip, if_neg (by omega), hi_ip, if_neg (by omega)]
  have b0 : ∀ r k, ¬ (r = 32 ∧ (k = 0 ∨ k = 1 ∨ k = 2)) → ab_i (ab_ip (ab_ip (ab_ip g 32 0 a) 32 1 c) 32 2 yr) r k = ab_i g r k := fun r k q => by rw [hi_ip, if_neg (by omega), hi_ip, if_neg (by omega), hi_ip, if_neg (by omega)]
  have b32 : ab_i (ab_ip (ab_ip (ab_ip g 32 0 a) 32 1 c) 32 2 yr) 32 0 = a := by rw [hi_ip, if_neg (by omega), hi_ip, if_neg (by omega), hi_ip, if_pos ⟨rfl, rfl⟩]
  have b321 : ab_i (ab_ip (ab_ip (ab_ip g 32 0 a) 32 1 c) 32 2 yr) 32 1 = c := by rw [hi_ip, if_neg (by omega), hi_ip, if_pos ⟨rfl, rfl⟩]
  have b322 : ab_i (ab_ip (ab_ip (ab_ip g 32 0 a) 32 1 c) 32 2 yr) 32 2 = yr := by rw [hi_ip, if_pos ⟨rfl, rfl⟩]
  refine gr_town H0 (Nat.le_refl _) (fun r k _ _ _ _ => rfl) (fun r k h1 _ => a0 r k (by omega)) (a0 0 9 (by omega)) (fun k => hp k) (b0 31 9 (by omega)) (fun k => b0 33 k (by omega)) (fun r h1 h2 k => b0 r k (by omega)) (fun k _ => b0 32 k (by omega)) (a0 1 1 (by omega)) ?_ ?_ ?_ ?_ ?_ ?_ ?_ ?_ ?_ ?_
  · rw [b32, hi_ip, if_neg (by omega), hi_ip, if_neg (by omega), hi_ip, if_pos ⟨rfl, rfl⟩]
  · rw [b321, hi_ip, if_neg (by omega), hi_ip, if_pos ⟨rfl, rfl⟩]
  · rw [a0 1 4 (by omega), b0 32 3 (by omega)]; exact d4
  · rw [a0 1 5 (by omega), b0 32 4 (by omega)]; exact d5
  · rw [a0 1 6 (by omega), b0 32 5 (by omega)]; exact d6
  · rw [b322, hi_ip, if_pos ⟨rfl, rfl⟩]
  · rw [b32]; exact ha
  · rw [b321]; exact hc'
  · rw [b0 32 3 (by omega)]; exact ht.2.2.2.2.1
  · rw [b0 32 4 (by omega)]; exact ht.2.2.2.2.2.1
end MND
