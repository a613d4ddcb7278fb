section PSE
/-! the two constructors -/
def nwl (n : Nat) (h : ab_HP) : ab_HP := (n + 1, fun a b => if a = n then 0 else h.2.1 a b, fun a b => if a = n then 0 else h.2.2.1 a b, fun a b => if a = n then none else h.2.2.2 a b)
theorem nw_l {n : Nat} {h : ab_HP} (e : h.1 = n) : ab_nw h = nwl n h := by rw [← e]; rfl
theorem hr_nwl (n : Nat) (h : ab_HP) (r k : Nat) : ab_r (nwl n h) r k = if r = n then none else ab_r h r k := rfl
theorem h1_nwl (n : Nat) (h : ab_HP) : (nwl n h).1 = n + 1 := rfl
def tnw (t : Nat) (h : ab_HP) : ab_HP := ab_ip (ab_ip (ab_rp (nwl (t + 1) (nwl t h)) t 0 (some (t + 1))) t 3 100) t 5 10
def snw (d : Nat) (h : ab_HP) : ab_HP := ab_rp (ab_ip (ab_rp (nwl (16 + 2 * d) (nwl (15 + 2 * d) h)) (15 + 2 * d) 0 (some (16 + 2 * d))) (15 + 2 * d) 2 (-1)) 11 d (some (15 + 2 * d))
def z00 : ab_HP := (0, fun _ _ => 0, fun _ _ => 0, fun _ _ => none)
def zA0 : ab_HP := nwl 0 z00
def zA1 : ab_HP := ab_rp (tnw 1 zA0) 0 0 (some 1)
def zA2 : ab_HP := ab_rp (tnw 3 zA1) 0 1 (some 3)
def zA3 : ab_HP := ab_rp (tnw 5 zA2) 0 2 (some 5)
def zA4 : ab_HP := ab_rp (ab_rp (nwl 10 (ab_rp (nwl 9 (ab_rp (nwl 8 (nwl 7 zA3)) 7 0 (some 8))) 7 1 (some 9))) 7 2 (some 10)) 0 3 (some 7)
def zA5 : ab_HP := ab_rp (nwl 11 zA4) 0 4 (some 11)
def zA6 : ab_HP := ab_rp (nwl 12 zA5) 0 5 (some 12)
def zA7 : ab_HP := ab_rp (nwl 13 zA6) 0 6 (some 13)
def zA8 : ab_HP := ab_rp (nwl 14 zA7) 0 7 (some 14)
def zB0 : ab_HP := zA8
def zB1 : ab_HP := snw 0 zB0
def zB2 : ab_HP := snw 1 zB1
def zB3 : ab_HP := snw 2 zB2
def zB4 : ab_HP := snw 3 zB3
def zB5 : ab_HP := snw 4 zB4
def zB6 : ab_HP := snw 5 zB5
def zB7 : ab_HP := snw 6 zB6
def zB8 : ab_HP := snw 7 zB7
def zC0 : ab_HP := nwl 31 zB8
def zC1 : ab_HP := ab_rp (nwl 32 zC0) 31 0 (some 32)
def zC2 : ab_HP := ab_rp (nwl 33 zC1) 31 1 (some 33)
def zC3 : ab_HP := ab_rp (nwl 34 zC2) 31 2 (some 34)
def zC4 : ab_HP := ab_rp (nwl 35 zC3) 31 3 (some 35)
def zC5 : ab_HP := ab_rp (nwl 36 zC4) 31 4 (some 36)
def zC6 : ab_HP := ab_rp (nwl 37 zC5) 31 5 (some 37)
def zC7 : ab_HP := ab_rp (nwl 38 zC6) 31 6 (some 38)
def zC8 : ab_HP := ab_rp (nwl 39 zC7) 31 7 (some 39)
def zC9 : ab_HP := ab_rp (nwl 40 zC8) 31 8 (some 40)
def zC10 : ab_HP := ab_rp (nwl 41 zC9) 31 16 (some 41)
def zC11 : ab_HP := ab_rp (nwl 42 zC10) 31 19 (some 42)
def zC12 : ab_HP := ab_rp (nwl 43 zC11) 31 20 (some 43)
def zC13 : ab_HP := ab_rp (nwl 44 zC12) 31 21 (some 44)
def zC14 : ab_HP := ab_rp (nwl 45 zC13) 31 22 (some 45)
def zC15 : ab_HP := ab_rp (nwl 46 zC14) 31 23 (some 46)
def zC16 : ab_HP := ab_rp (nwl 47 zC15) 31 32 (some 47)
def zC17 : ab_HP := ab_rp (nwl 48 zC16) 31 39 (some 48)
def zD : ab_HP := ab_ip (ab_ip zC17 32 1 100) 32 4 10
def zE : ab_HP := nwl 49 zD
theorem x9_n {t : Nat} {h : ab_HP} (e : h.1 = t) (e1 : ab_shp (t + 1) = (8, 8)) : f_X9_init t (ab_nw h) = some (tnw t h) := by
  have e2 : (ab_nw h).1 = t + 1 := by rw [h1_nw, e]
  unfold f_X9_init ab_let
  rw [e2, if_pos e1, nw_l e, nw_l (h1_nwl t h)]
  rfl
theorem eA0 : zA0.1 = 1 := rfl
theorem eA1 : zA1.1 = 3 := rfl
theorem eA2 : zA2.1 = 5 := rfl
theorem eA3 : zA3.1 = 7 := rfl
theorem eA4 : zA4.1 = 11 := rfl
theorem eA5 : zA5.1 = 12 := rfl
theorem eA6 : zA6.1 = 13 := rfl
theorem eA7 : zA7.1 = 14 := rfl
theorem eA8 : zA8.1 = 15 := rfl
theorem x10_n {zA3 : ab_HP} (eA3 : zA3.1 = 7) : f_X10_init 7 (ab_nw zA3) = some (ab_rp (nwl 10 (ab_rp (nwl 9 (ab_rp (nwl 8 (nwl 7 zA3)) 7 0 (some 8))) 7 1 (some 9))) 7 2 (some 10)) := by
  unfold f_X10_init ab_let
  rw [nw_l eA3, h1_nwl, if_pos (show ab_shp (7 + 1) = (8, 16) from rfl), nw_l (h1_nwl 7 zA3)]
  try dsimp only
  rw [h1_rp, h1_nwl, if_pos (show ab_shp (7 + 1 + 1) = (6, 16) from rfl), nw_l (show (ab_rp (nwl (7 + 1) (nwl 7 zA3)) 7 0 (some (7 + 1))).1 = 9 from rfl)]
  try dsimp only
  rw [h1_rp, h1_nwl, if_pos (show ab_shp (9 + 1) = (6, 16) from rfl), nw_l (show (ab_rp (nwl 9 (ab_rp (nwl (7 + 1) (nwl 7 zA3)) 7 0 (some (7 + 1)))) 7 1 (some (7 + 1 + 1))).1 = 10 from rfl)]
theorem l84_n {d : Nat} {h : ab_HP} (hd : d < 8) (e : h.1 = 15 + 2 * d) (r4 : ab_r h 0 4 = some 11) (s1 : ab_shp (15 + 2 * d) = (3, 0)) (s2 : ab_shp (16 + 2 * d) = (6, 100)) (F : Nat) : f_X11_init_l84 0 (F + 1) (nI d) h = f_X11_init_l84 0 F (nI (d + 1)) (snw d h) ∧ (snw d h).1 = 15 + 2 * (d + 1) ∧ ab_r (snw d h) 0 4 = some 11 := by
  have q : ¬ Int32.ofNat 8 ≤ nI d := nI_ge (b := 8) (by omega) (by decide)
  have i8 : ab_in (nI d) 8 = true := in_nI hd (by decide)
  have c8 : (nI d).toNatClampNeg = d := nI_clamp (by omega)
  have x6 : f_X6_init (15 + 2 * d) (nwl (15 + 2 * d) h) = some (ab_ip (ab_rp (nwl (16 + 2 * d) (nwl (15 + 2 * d) h)) (15 + 2 * d) 0 (some (16 + 2 * d))) (15 + 2 * d) 2 (-1)) := by
    have e2 : (nwl (15 + 2 * d) h).1 = 16 + 2 * d := by rw [h1_nwl]; omega
    unfold f_X6_init ab_let
    rw [e2, if_pos s2, nw_l e2]
  refine ⟨?_, ?_, ?_⟩
  · rw [f_X11_init_l84]
    simp only [r4, Option.bind_some, shp_11, q, if_false]
    unfold ab_let
    rw [e, s1, if_pos rfl, nw_l e]
    try dsimp only
    rw [x6, Option.bind_some]
    try dsimp only
    simp only [i8, if_true, c8, nI_1]
    rfl
  · show 16 + 2 * d + 1 = _
    omega
  · unfold snw
    rw [hr_rp, if_neg (by omega), hr_ip, hr_rp, if_neg (by omega), hr_nwl, if_neg (by omega), hr_nwl, if_neg (by omega)]
    exact r4
theorem rB0 : ab_r zB0 0 4 = some 11 := by
  show ab_r zA8 0 4 = _
  unfold zA8 zA7 zA6 zA5
  rw [hr_rp, if_neg (by decide), hr_nwl, if_neg (by decide), hr_rp, if_neg (by decide), hr_nwl, if_neg (by decide), hr_rp, if_neg (by decide), hr_nwl, if_neg (by decide), hr_rp, if_pos (by decide)]
theorem sB0 (F : Nat) : f_X11_init_l84 0 (F + 1) (nI 0) zB0 = f_X11_init_l84 0 F (nI 1) zB1 ∧ zB1.1 = 17 ∧ ab_r zB1 0 4 = some 11 := l84_n (d := 0) (h := zB0) (by decide) eA8 rB0 rfl rfl F
theorem sB1 (F : Nat) : f_X11_init_l84 0 (F + 1) (nI 1) zB1 = f_X11_init_l84 0 F (nI 2) zB2 ∧ zB2.1 = 19 ∧ ab_r zB2 0 4 = some 11 := l84_n (d := 1) (h := zB1) (by decide) (sB0 0).2.1 (sB0 0).2.2 rfl rfl F
theorem sB2 (F : Nat) : f_X11_init_l84 0 (F + 1) (nI 2) zB2 = f_X11_init_l84 0 F (nI 3) zB3 ∧ zB3.1 = 21 ∧ ab_r zB3 0 4 = some 11 := l84_n (d := 2) (h := zB2) (by decide) (sB1 0).2.1 (sB1 0).2.2 rfl rfl F
theorem sB3 (F : Nat) : f_X11_init_l84 0 (F + 1) (nI 3) zB3 = f_X11_init_l84 0 F (nI 4) zB4 ∧ zB4.1 = 23 ∧ ab_r zB4 0 4 = some 11 := l84_n (d := 3) (h := zB3) (by decide) (sB2 0).2.1 (sB2 0).2.2 rfl rfl F
theorem sB4 (F : Nat) : f_X11_init_l84 0 (F + 1) (nI 4) zB4 = f_X11_init_l84 0 F (nI 5) zB5 ∧ zB5.1 = 25 ∧ ab_r zB5 0 4 = some 11 := l84_n (d := 4) (h := zB4) (by decide) (sB3 0).2.1 (sB3 0).2.2 rfl rfl F
theorem sB5 (F : Nat) : f_X11_init_l84 0 (F + 1) (nI 5) zB5 = f_X11_init_l84 0 F (nI 6) zB6 ∧ zB6.1 = 27 ∧ ab_r zB6 0 4 = some 11 := l84_n (d := 5) (h := zB5) (by decide) (sB4 0).2.1 (sB4 0).2.2 rfl rfl F
theorem sB6 (F : Nat) : f_X11_init_l84 0 (F + 1) (nI 6) zB6 = f_X11_init_l84 0 F (nI 7) zB7 ∧ zB7.1 = 29 ∧ ab_r zB7 0 4 = some 11 := l84_n (d := 6) (h := zB6) (by decide) (sB5 0).2.1 (sB5 0).2.2 rfl rfl F
theorem sB7 (F : Nat) : f_X11_init_l84 0 (F + 1) (nI 7) zB7 = f_X11_init_l84 0 F (nI 8) zB8 ∧ zB8.1 = 31 ∧ ab_r zB8 0 4 = some 11 := l84_n (d := 7) (h := zB7) (by decide) (sB6 0).2.1 (sB6 0).2.2 rfl rfl F
theorem i_l84 (F : Nat) : f_X11_init_l84 0 (F + 9) (nI 0) zB0 = some zB8 := by
  rw [(sB0 (F + 8)).1, (sB1 (F + 7)).1, (sB2 (F + 6)).1, (sB3 (F + 5)).1, (sB4 (F + 4)).1, (sB5 (F + 3)).1, (sB6 (F + 2)).1, (sB7 (F + 1)).1, f_X11_init_l84, (sB7 0).2.2, Option.bind_some, shp_11, if_pos (show Int32.ofNat 8 ≤ nI 8 by decide)]
end PSE
