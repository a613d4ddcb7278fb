section PLY
theorem c_begin (h : ab_HP) (z : zS) (m c : Int32) : f_X10_begin 7 m c (z_put h z) = some (z_put h (m, c, 0, 0, 0, 0, 0, 0, z.2.2.2.2.2.2.2.2.1, z.2.2.2.2.2.2.2.2.2)) := by
  obtain ⟨m', c', p, dn, un, nl, fm, fl, MD, LS⟩ := z
  unfold f_X10_begin
  simp only [Option.bind_some, ab_let, Option.elim_some, Option.elim_none, z_p6, z_p7, z_p8, z_p9, z_p10, z_p11, z_p12, z_p13, z_q9, z_q10]
theorem c_begin0 (h : ab_HP) (m c : Int32) : f_X10_begin 7 m c h = some (z_put h (m, c, 0, 0, 0, 0, 0, 0, ab_i h 9, ab_i h 10)) := by
  have := c_begin h (z_of h) m c
  rw [z_put_of] at this
  exact this
/-- a PAIR played in the class's mind -/
theorem c_play {w : ab_HP} (hc : cp w) {n : Nat} {li : Nat → Nat} {s : Nat → Int32} (hl : cl w n li s) (ht : ct w s) (h4 : ab_i w 7 4 = s 3) (h2 : ab_i w 1 2 = s 0) (h3 : ab_i w 1 3 = s 1) (nails : Int32) : f_X10_play 7 nails w = some (z_put w (z_odds s li (s 3) n n (z_evens s li nails n (s 0, s 1, 0, 0, 0, 0, 0, 0, ab_i w 9, ab_i w 10)))) := by
  unfold f_X10_play f_X10_play_b25
  simp only [ht.1, Option.bind_some, ab_let, Option.elim_some, Option.elim_none, h2, h3, c_begin0, c_even hc hl ht, c_odd hc hl, h4]
/-- a pair played on both sides: how they stand then -/
theorem pl_zr {n : Nat} (hn : n ≤ 16) (s : Nat → Int32) (li : Nat → Nat) (nails : Int32) (F C A B MD LS : Nat → Int32) : zr n 0 0 (z_odds s li (s 3) n n (z_evens s li nails n (s 0, s 1, 0, 0, 0, 0, 0, 0, MD, LS))) (y_pair s li n nails (s 0, s 1, 0, 0, F, C, A, B)) :=
  zr_pair hn s li nails 0 (zr_0 (s 0) (s 1) 0 F C A B MD LS n)
end PLY
