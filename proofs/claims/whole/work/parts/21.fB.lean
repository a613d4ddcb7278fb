def f_X11_init_l84 (t0 : Nat) : Nat → Int32 → ab_HP → Option ab_HP
  | 0, _, _ => none
  | n + 1, i1, h =>
    ((ab_r h t0 4)).bind fun q30 =>
    if (Int32.ofNat (ab_shp q30).2) ≤ i1 then (some h)
    else (if (ab_shp h.1).1 = 3 then
    (ab_let (ab_nw h) fun h34 =>
    (f_X6_init h.1 h34).bind fun w35 =>
    ((ab_r h t0 4)).bind fun q36 =>
    if ab_in i1 (ab_shp q36).2 = true then
    (ab_let (ab_rp w35 q36 i1.toNatClampNeg (some h.1)) fun h38 =>
    f_X11_init_l84 t0 n (i1 + (1 : Int32)) h38) else none) else none)
def f_X11_init (t0 : Nat) (h : ab_HP) : Option ab_HP :=
    if (ab_shp h.1).1 = 1 then
    (ab_let (ab_nw h) fun h2 =>
    (f_X9_init h.1 h2).bind fun w3 =>
    ab_let (ab_rp w3 t0 0 (some h.1)) fun h4 =>
    if (ab_shp h4.1).1 = 1 then
    (ab_let (ab_nw h4) fun h6 =>
    (f_X9_init h4.1 h6).bind fun w7 =>
    ab_let (ab_rp w7 t0 1 (some h4.1)) fun h8 =>
    if (ab_shp h8.1).1 = 1 then
    (ab_let (ab_nw h8) fun h10 =>
    (f_X9_init h8.1 h10).bind fun w11 =>
    ab_let (ab_rp w11 t0 2 (some h8.1)) fun h12 =>
    if (ab_shp h12.1).1 = 2 then
    (ab_let (ab_nw h12) fun h14 =>
    (f_X10_init h12.1 h14).bind fun w15 =>
    ab_let (ab_rp w15 t0 3 (some h12.1)) fun h16 =>
    if ab_shp h16.1 = (9, 8) then
    (ab_let (ab_nw h16) fun h18 =>
    ab_let (ab_rp h18 t0 4 (some h16.1)) fun h19 =>
    if ab_shp h19.1 = (6, 5) then
    (ab_let (ab_nw h19) fun h21 =>
    ab_let (ab_rp h21 t0 5 (some h19.1)) fun h22 =>
    if ab_shp h22.1 = (6, 241) then
    (ab_let (ab_nw h22) fun h24 =>
    ab_let (ab_rp h24 t0 6 (some h22.1)) fun h25 =>
    if ab_shp h25.1 = (6, 241) then
    (ab_let (ab_nw h25) fun h27 =>
    ab_let (ab_rp h27 t0 7 (some h25.1)) fun h28 =>
    f_X11_init_l84 t0 9 0 h28) else none) else none) else none) else none) else none) else none) else none) else none
def f_X11_shelfAt (t0 : Nat) (i1 : Int32) (h : ab_HP) : Option (Option Nat) :=
    if i1 < 0 then (some none)
    else (((ab_r h t0 4)).bind fun q3 =>
    if i1 < (Int32.ofNat (ab_shp q3).2) then (((ab_r h t0 4)).bind fun q6 =>
    if ab_in i1 (ab_shp q6).2 = true then
    (some (ab_r h q6 i1.toNatClampNeg)) else none)
    else (some none))
def f_X11_town (t0 : Nat) (i1 : Int32) (h : ab_HP) : Option (Int32 × ab_HP) :=
    (f_X11_shelfAt t0 i1 h).bind fun w1 =>
    (w1).elim (some ((-1), h))
    (fun q3 => (f_X6_bytesRefusal q3 h).bind fun w4 =>
    if w4 = 0 then (((ab_r h t0 2)).bind fun q8 =>
    (f_X9_become q8 (ab_r h t0 0) h).bind fun w9 =>
    ((ab_r w9 t0 2)).bind fun q11 =>
    (f_X9_read q11 w1 w9).bind fun w12 =>
    if w12.1 ≤ 0 then (some (w12.1, w12.2))
    else (((ab_r w12.2 t0 0)).bind fun q16 =>
    (f_X9_become q16 (ab_r w12.2 t0 2) w12.2).bind fun w17 =>
    some (w12.1, w17)))
    else (some (w4, h)))
def f_X11_deed (t0 : Nat) (i1 : Int32) (i2 : Int32) (h : ab_HP) : Option Int32 :=
    ((ab_r h t0 0)).bind fun q2 =>
    (f_X9_deedAt q2 i1 h).bind fun w3 =>
    (w3).elim (some (-1))
    (fun q5 => if i2 = 0 then (some (ab_i h q5 5))
    else if i2 = 1 then (some (ab_i h q5 1))
    else if i2 = 2 then (some (ab_i h q5 2))
    else if i2 = 3 then (some (ab_i h q5 3))
    else if i2 = 4 then (some (ab_i h q5 4))
    else if i2 = 5 then (some (ab_i h q5 6))
    else if i2 = 6 then (some (ab_i h q5 7))
    else if i2 = 7 then (if (ab_i h q5 10) = 0 then (some 0)
    else (some 1))
    else (some (-1)))
def f_X11_marks (t0 : Nat) (h : ab_HP) : Option Int32 :=
    ((ab_r h t0 0)).bind fun q2 =>
    some (ab_i h q2 2)
def f_X11_state (t0 : Nat) (i1 : Int32) (h : ab_HP) : Option Int32 :=
    if i1 = 0 then (((ab_r h t0 0)).bind fun q3 =>
    some (ab_i h q3 3))
    else if i1 = 1 then (((ab_r h t0 0)).bind fun q6 =>
    some (ab_i h q6 7))
    else if i1 = 2 then (((ab_r h t0 0)).bind fun q9 =>
    some (ab_i h q9 4))
    else if i1 = 3 then (((ab_r h t0 0)).bind fun q12 =>
    some (ab_i h q12 5))
    else (some (-1))
def f_X11_rise (t0 : Nat) (h : ab_HP) : Option Int32 :=
    ((ab_r h t0 0)).bind fun q2 =>
    some (ab_i h q2 6)
def f_X11_set (t0 : Nat) (i1 : Int32) (i2 : Int32) (h : ab_HP) : Option (Int32 × ab_HP) :=
    if i1 = 0 then (((ab_r h t0 0)).bind fun q3 =>
    (f_X9_changeLaw q3 i2 h).bind fun w4 =>
    some (w4.1, w4.2))
    else if i1 = 1 then (((ab_r h t0 0)).bind fun q7 =>
    (f_X9_changeNail q7 i2 h).bind fun w8 =>
    some (w8.1, w8.2))
    else if i1 = 2 then (((ab_r h t0 0)).bind fun q11 =>
    (f_X9_changeCoins q11 i2 h).bind fun w12 =>
    some (w12.1, w12.2))
    else (some ((-1), h))
def f_X11_may (t0 : Nat) (i1 : Int32) (h : ab_HP) : Option Int32 :=
    ((ab_r h t0 0)).bind fun q2 =>
    (f_X9_deedAt q2 i1 h).bind fun w3 =>
    (w3).elim (some (-1))
    (fun q5 => ((ab_r h t0 0)).bind fun q7 =>
    ((ab_r h t0 0)).bind fun q9 =>
    (f_X1_mayBeDone q5 (ab_i h q7 2) (ab_i h q9 3) h).bind fun w10 =>
    if w10 = 0 then (some 0)
    else (some 1))
def f_X11_areNails (i0 : Int32) (h : ab_HP) : Option Int32 :=
    if i0 < 0 then (some 0)
    else (if 255 < i0 then (some 0)
    else (some 1))
def f_X11_listRefusal_l38 (t0 : Nat) : Nat → Option Nat → Int32 → ab_HP → Option Int32
  | 0, _, _, _ => none
  | n + 1, i2, i4, h =>
    (i2).bind fun q7 =>
    if (ab_i h q7 3) ≤ i4 then (some 0)
    else ((f_X6_read q7 i4 h).bind fun w10 =>
    ((ab_r h t0 0)).bind fun q11 =>
    (f_X9_deedAt q11 w10 h).bind fun w12 =>
    (w12).elim (some (-13))
    (fun q14 => f_X11_listRefusal_l38 t0 n i2 (i4 + (1 : Int32)) h))
def f_X11_listRefusal (t0 : Nat) (i1 : Int32) (h : ab_HP) : Option Int32 :=
    (f_X11_shelfAt t0 i1 h).bind fun w1 =>
    (w1).elim (some (-1))
    (fun q3 => (f_X6_bytesRefusal q3 h).bind fun w4 =>
    if w4 = 0 then (if (ab_i h q3 3) ≤ 8 then (f_X11_listRefusal_l38 t0 1000 w1 0 h)
    else (some (-13)))
    else (some w4))
def f_X11_takeList_l36 (t0 : Nat) : Nat → Option Nat → Int32 → ab_HP → Option (Int32 × ab_HP)
  | 0, _, _, _ => none
  | n + 1, i3, i4, h =>
    (i3).bind fun q10 =>
    if (ab_i h q10 3) ≤ i4 then (some (0, h))
    else ((f_X6_read q10 i4 h).bind fun w14 =>
    ((ab_r h t0 0)).bind fun q15 =>
    (f_X9_deedAt q15 w14 h).bind fun w16 =>
    ((ab_r h t0 3)).bind fun q18 =>
    (f_X10_add q18 w16 h).bind fun w19 =>
    f_X11_takeList_l36 t0 n i3 (i4 + (1 : Int32)) w19)
def f_X11_takeList (t0 : Nat) (i1 : Int32) (h : ab_HP) : Option (Int32 × ab_HP) :=
    (f_X11_listRefusal t0 i1 h).bind fun w1 =>
    (f_X11_shelfAt t0 i1 h).bind fun w2 =>
    if w1 = 0 then ((w2).elim (some (w1, h))
    (fun q5 => ((ab_r h t0 3)).bind fun q8 =>
    (f_X10_open q8 (ab_r h t0 0) h).bind fun w9 =>
    f_X11_takeList_l36 t0 1000 w2 0 w9))
    else (some (w1, h))
def f_X11_playList (t0 : Nat) (i1 : Int32) (i2 : Int32) (h : ab_HP) : Option (Int32 × ab_HP) :=
    (f_X11_areNails i2 h).bind fun w1 =>
    if w1 = 0 then (some ((-1), h))
    else ((f_X11_takeList t0 i1 h).bind fun w4 =>
    if w4.1 = 0 then (((ab_r w4.2 t0 3)).bind fun q7 =>
    (f_X10_play q7 i2 w4.2).bind fun w8 =>
    some (w4.1, w8))
    else (some (w4.1, w4.2)))
def f_X11_endYears (t0 : Nat) (i1 : Int32) (h : ab_HP) : Option ab_HP :=
    ((ab_r h t0 3)).bind fun q3 =>
    ((ab_r h t0 0)).bind fun q4 =>
    ab_let (ab_ip h q4 2 (ab_i h q3 6)) fun h5 =>
    ((ab_r h5 t0 3)).bind fun q8 =>
    ((ab_r h5 t0 0)).bind fun q9 =>
    ab_let (ab_ip h5 q9 3 (ab_i h5 q8 7)) fun h10 =>
    ((ab_r h10 t0 0)).bind fun q12 =>
    ab_let (ab_ip h10 q12 7 ((ab_i h10 q12 7) + i1)) fun h13 =>
    some h13
def f_X11_pair (t0 : Nat) (i1 : Int32) (i2 : Int32) (h : ab_HP) : Option (Int32 × ab_HP) :=
    (f_X11_playList t0 i1 i2 h).bind fun w1 =>
    if w1.1 = 0 then ((f_X11_endYears t0 2 w1.2).bind fun w3 =>
    ((ab_r w3 t0 3)).bind fun q5 =>
    (f_X10_standing q5 w3).bind fun w6 =>
    (f_J6_bitCount_0f7a4 w6 w3).bind fun w7 =>
    some (w7, w3))
    else (some (w1.1, w1.2))
def f_X11_even (t0 : Nat) (i1 : Int32) (h : ab_HP) : Option (Int32 × ab_HP) :=
    (f_X11_takeList t0 i1 h).bind fun w1 =>
    if w1.1 = 0 then (((ab_r w1.2 t0 0)).bind fun q5 =>
    ((ab_r w1.2 t0 0)).bind fun q7 =>
    ((ab_r w1.2 t0 3)).bind fun q8 =>
    (f_X10_begin q8 (ab_i w1.2 q5 2) (ab_i w1.2 q7 3) w1.2).bind fun w9 =>
    ((ab_r w9 t0 3)).bind fun q11 =>
    (f_X10_evenYear q11 0 w9).bind fun w12 =>
    (f_X11_endYears t0 1 w12).bind fun w13 =>
    ((ab_r w13 t0 3)).bind fun q15 =>
    (f_J6_bitCount_0f7a4 (ab_i w13 q15 9) w13).bind fun w16 =>
    some (w16, w13))
    else (some (w1.1, w1.2))
def f_X11_lasts (t0 : Nat) (i1 : Int32) (i2 : Int32) (i3 : Int32) (h : ab_HP) : Option (Int32 × ab_HP) :=
    if i3 < 0 then (some ((-1), h))
    else (if i3 < 10 then ((f_X11_playList t0 i1 i2 h).bind fun w3 =>
    if w3.1 = 0 then (((ab_r w3.2 t0 3)).bind fun q6 =>
    some ((((ab_i w3.2 q6 6) >>> (i3 &&& 31)) &&& (1 : Int32)), w3.2))
    else (some (w3.1, w3.2)))
    else (some ((-1), h)))
def f_X11_why (t0 : Nat) (i1 : Int32) (i2 : Int32) (i3 : Int32) (h : ab_HP) : Option (Int32 × ab_HP) :=
    (f_X11_playList t0 i1 i2 h).bind fun w1 =>
    if w1.1 = 0 then (if i3 < 0 then (some ((-13), w1.2))
    else (((ab_r w1.2 t0 3)).bind fun q5 =>
    if i3 < (ab_i w1.2 q5 5) then (((ab_r w1.2 t0 3)).bind fun q8 =>
    (f_X10_fate q8 i3 w1.2).bind fun w9 =>
    some (w9, w1.2))
    else (some ((-13), w1.2))))
    else (some (w1.1, w1.2))
def f_X11_behind (t0 : Nat) (i1 : Int32) (i2 : Int32) (i3 : Int32) (h : ab_HP) : Option (Int32 × ab_HP) :=
    if i3 < 0 then (some ((-1), h))
    else (if i3 ≤ 3 then ((f_X11_playList t0 i1 i2 h).bind fun w3 =>
    if w3.1 = 0 then (if i3 = 0 then (((ab_r w3.2 t0 3)).bind fun q7 =>
    some ((ab_i w3.2 q7 6), w3.2))
    else if i3 = 1 then (((ab_r w3.2 t0 3)).bind fun q10 =>
    some ((ab_i w3.2 q10 7), w3.2))
    else if i3 = 2 then (((ab_r w3.2 t0 3)).bind fun q13 =>
    (f_J6_bitCount_0f7a4 (ab_i w3.2 q13 10) w3.2).bind fun w14 =>
    some (w14, w3.2))
    else (((ab_r w3.2 t0 3)).bind fun q16 =>
    some ((ab_i w3.2 q16 8), w3.2)))
    else (some (w3.1, w3.2)))
    else (some ((-1), h)))
def f_X11_areMarks (i0 : Int32) (h : ab_HP) : Option Int32 :=
    if i0 < 0 then (some 0)
    else (if 1023 < i0 then (some 0)
    else (some 1))
def f_X11_least (t0 : Nat) (i1 : Int32) (i2 : Int32) (i3 : Int32) (h : ab_HP) : Option (Int32 × ab_HP) :=
    (f_X11_areMarks i2 h).bind fun w1 =>
    if w1 = 0 then (some ((-1), h))
    else (if i3 < 0 then (some ((-1), h))
    else (if i3 ≤ 2 then ((f_X11_takeList t0 i1 h).bind fun w6 =>
    if w6.1 = 0 then (((ab_r w6.2 t0 3)).bind fun q9 =>
    (f_X10_leastNails q9 i2 w6.2).bind fun w10 =>
    if (0 : Int32) ≤ w10.1 then (if i3 = 0 then ((f_J6_bitCount_0f7a4 w10.1 w10.2).bind fun w19 =>
    some (w19, w10.2))
    else (if i3 = 2 then (some (w10.1, w10.2))
    else (((ab_r w10.2 t0 3)).bind fun q15 =>
    (f_X10_play q15 w10.1 w10.2).bind fun w16 =>
    ((ab_r w16 t0 3)).bind fun q18 =>
    some ((ab_i w16 q18 8), w16))))
    else (some ((-4), w10.2)))
    else (some (w6.1, w6.2)))
    else (some ((-1), h))))
def f_X11_takeOrder_l13 (t0 : Nat) : Nat → Option Nat → Int32 → ab_HP → Option ab_HP
  | 0, _, _, _ => none
  | n + 1, i1, i2, h =>
    (i1).bind fun q5 =>
    if (ab_i h q5 3) ≤ i2 then (some h)
    else ((f_X11_at (ab_r h t0 5) i2 h).bind fun w10 =>
    (f_X6_read q5 w10 h).bind fun w11 =>
    ((ab_r h t0 0)).bind fun q12 =>
    (f_X9_deedAt q12 w11 h).bind fun w13 =>
    ((ab_r h t0 3)).bind fun q15 =>
    (f_X10_add q15 w13 h).bind fun w16 =>
    f_X11_takeOrder_l13 t0 n i1 (i2 + (1 : Int32)) w16)
def f_X11_takeOrder (t0 : Nat) (i1 : Option Nat) (h : ab_HP) : Option ab_HP :=
    ((ab_r h t0 3)).bind fun q3 =>
    (f_X10_open q3 (ab_r h t0 0) h).bind fun w4 =>
    f_X11_takeOrder_l13 t0 1000 i1 0 w4
def f_X11_orderDigits_l6 (t0 : Nat) : Nat → Int32 → Int32 → ab_HP → Option Int32
  | 0, _, _, _ => none
  | n + 1, i2, i3, h =>
    if i3 < 0 then (some i2)
    else ((f_X11_at (ab_r h t0 5) i3 h).bind fun w3 =>
    f_X11_orderDigits_l6 t0 n (((10 : Int32) * i2) + w3) (i3 + (-1 : Int32)) h)
def f_X11_orderDigits (t0 : Nat) (i1 : Int32) (h : ab_HP) : Option Int32 :=
    f_X11_orderDigits_l6 t0 1000 0 (i1 - (1 : Int32)) h
def f_X11_swapPlaces (t0 : Nat) (i1 : Int32) (i2 : Int32) (h : ab_HP) : Option ab_HP :=
    (f_X11_at (ab_r h t0 5) i1 h).bind fun w2 =>
    (f_X11_at (ab_r h t0 5) i2 h).bind fun w5 =>
    (f_X11_store (ab_r h t0 5) i1 w5 h).bind fun w6 =>
    (f_X11_store (ab_r w6 t0 5) i2 w2 w6).bind fun w8 =>
    some w8
def f_X11_nextOrder_l93 (t0 : Nat) : Nat → Int32 → Int32 → ab_HP → Option (Int32 × ab_HP)
  | 0, _, _, _ => none
  | n + 1, i4, i5, h =>
    if i5 ≤ i4 then (some (1, h))
    else ((f_X11_swapPlaces t0 i4 i5 h).bind fun w16 =>
    f_X11_nextOrder_l93 t0 n (i4 + (1 : Int32)) (i5 + (-1 : Int32)) w16)
def f_X11_nextOrder_b77 (t0 : Nat) (i1 : Int32) (i2 : Int32) (i3 : Int32) (h : ab_HP) : Option (Int32 × ab_HP) :=
    (f_X11_swapPlaces t0 i2 i3 h).bind fun w14 =>
    f_X11_nextOrder_l93 t0 1000 (i2 + (1 : Int32)) (i1 - (1 : Int32)) w14
def f_X11_nextOrder_l45 (t0 : Nat) : Nat → Int32 → Int32 → Int32 → ab_HP → Option (Int32 × ab_HP)
  | 0, _, _, _, _ => none
  | n + 1, i1, i2, i3, h =>
    if i3 ≤ (i2 + (1 : Int32)) then (f_X11_nextOrder_b77 t0 i1 i2 i3 h)
    else ((f_X11_at (ab_r h t0 5) i3 h).bind fun w10 =>
    (f_X11_at (ab_r h t0 5) i2 h).bind fun w12 =>
    if w12 ≤ w10 then (f_X11_nextOrder_b77 t0 i1 i2 i3 h)
    else (f_X11_nextOrder_l45 t0 n i1 i2 (i3 + (-1 : Int32)) h))
def f_X11_nextOrder_b35 (t0 : Nat) (i1 : Int32) (i2 : Int32) (h : ab_HP) : Option (Int32 × ab_HP) :=
    if (0 : Int32) ≤ i2 then (f_X11_nextOrder_l45 t0 1000 i1 i2 (i1 - (1 : Int32)) h)
    else (some (0, h))
def f_X11_nextOrder_l4 (t0 : Nat) : Nat → Int32 → Int32 → ab_HP → Option (Int32 × ab_HP)
  | 0, _, _, _ => none
  | n + 1, i1, i2, h =>
    if i2 < 0 then (f_X11_nextOrder_b35 t0 i1 i2 h)
    else ((f_X11_at (ab_r h t0 5) i2 h).bind fun w3 =>
    (f_X11_at (ab_r h t0 5) (i2 + (1 : Int32)) h).bind fun w5 =>
    if w3 ≤ w5 then (f_X11_nextOrder_b35 t0 i1 i2 h)
    else (f_X11_nextOrder_l4 t0 n i1 (i2 + (-1 : Int32)) h))
def f_X11_nextOrder (t0 : Nat) (i1 : Int32) (h : ab_HP) : Option (Int32 × ab_HP) :=
    f_X11_nextOrder_l4 t0 1000 i1 (i1 - (2 : Int32)) h
def f_X11_freest_b122 (t0 : Nat) (i3 : Int32) (i4 : Int32) (i5 : Int32) (h : ab_HP) : Option (Int32 × ab_HP) :=
    if i3 = 0 then (some (i5, h))
    else (some (i4, h))
def f_X11_freest_b106 (k42 : Option Nat → Int32 → Int32 → Int32 → Int32 → Int32 → Int32 → ab_HP → Option (Int32 × ab_HP)) (t0 : Nat) (i1 : Option Nat) (i2 : Int32) (i3 : Int32) (i4 : Int32) (i5 : Int32) (i7 : Int32) (h : ab_HP) : Option (Int32 × ab_HP) :=
    (i1).bind fun q19 =>
    (f_X11_nextOrder t0 (ab_i h q19 3) h).bind fun w20 =>
    k42 i1 i2 i3 i4 i5 w20.1 (i7 + (1 : Int32)) w20.2
def f_X11_freest_b89 (k42 : Option Nat → Int32 → Int32 → Int32 → Int32 → Int32 → Int32 → ab_HP → Option (Int32 × ab_HP)) (t0 : Nat) (i1 : Option Nat) (i2 : Int32) (i3 : Int32) (i7 : Int32) (i8 : Int32) (h : ab_HP) : Option (Int32 × ab_HP) :=
    (f_J6_bitCount_0f7a4 i8 h).bind fun w22 =>
    (i1).bind fun q23 =>
    (f_X11_orderDigits t0 (ab_i h q23 3) h).bind fun w24 =>
    f_X11_freest_b106 k42 t0 i1 i2 i3 w22 w24 i7 h
def f_X11_freest_l42 (t0 : Nat) : Nat → Option Nat → Int32 → Int32 → Int32 → Int32 → Int32 → Int32 → ab_HP → Option (Int32 × ab_HP)
  | 0, _, _, _, _, _, _, _, _ => none
  | n + 1, i1, i2, i3, i4, i5, i6, i7, h =>
    if 120 ≤ i7 then (f_X11_freest_b122 t0 i3 i4 i5 h)
    else (if i6 = 0 then (f_X11_freest_b122 t0 i3 i4 i5 h)
    else ((f_X11_takeOrder t0 i1 h).bind fun w10 =>
    ((ab_r w10 t0 3)).bind fun q12 =>
    (f_X10_leastNails q12 i2 w10).bind fun w13 =>
    if w13.1 < 0 then (f_X11_freest_b106 (f_X11_freest_l42 t0 n) t0 i1 i2 i3 i4 i5 i7 w13.2)
    else (if i4 < 0 then (f_X11_freest_b89 (f_X11_freest_l42 t0 n) t0 i1 i2 i3 i7 w13.1 w13.2)
    else ((f_J6_bitCount_0f7a4 w13.1 w13.2).bind fun w16 =>
    if i4 ≤ w16 then (f_X11_freest_b106 (f_X11_freest_l42 t0 n) t0 i1 i2 i3 i4 i5 i7 w13.2)
    else (f_X11_freest_b89 (f_X11_freest_l42 t0 n) t0 i1 i2 i3 i7 w13.1 w13.2)))))
def f_X11_freest_l11 (t0 : Nat) : Nat → Option Nat → Int32 → Int32 → Int32 → Int32 → Int32 → ab_HP → Option (Int32 × ab_HP)
  | 0, _, _, _, _, _, _, _ => none
  | n + 1, i1, i2, i3, i4, i5, i6, h =>
    ((ab_r h t0 5)).bind fun q2 =>
    if (Int32.ofNat (ab_shp q2).2) ≤ i6 then (f_X11_freest_l42 t0 1000 i1 i2 i3 i4 i5 1 0 h)
    else (((ab_r h t0 5)).bind fun q5 =>
    if ab_in i6 (ab_shp q5).2 = true then
    (ab_let (ab_ip h q5 i6.toNatClampNeg i6) fun h7 =>
    f_X11_freest_l11 t0 n i1 i2 i3 i4 i5 (i6 + (1 : Int32)) h7) else none)
def f_X11_freest (t0 : Nat) (i1 : Option Nat) (i2 : Int32) (i3 : Int32) (h : ab_HP) : Option (Int32 × ab_HP) :=
    f_X11_freest_l11 t0 1000 i1 i2 i3 (-4) (-4) 0 h
def f_X11_free (t0 : Nat) (i1 : Int32) (i2 : Int32) (i3 : Int32) (h : ab_HP) : Option (Int32 × ab_HP) :=
    (f_X11_areMarks i2 h).bind fun w1 =>
    if w1 = 0 then (some ((-1), h))
    else (if i3 < 0 then (some ((-1), h))
    else (if i3 ≤ 1 then ((f_X11_listRefusal t0 i1 h).bind fun w6 =>
    (f_X11_shelfAt t0 i1 h).bind fun w7 =>
    if w6 = 0 then ((w7).elim (some (w6, h))
    (fun q10 => if (ab_i h q10 3) ≤ 5 then ((f_X11_freest t0 w7 i2 i3 h).bind fun w12 =>
    some (w12.1, w12.2))
    else (some ((-13), h))))
    else (some (w6, h)))
    else (some ((-1), h))))
def f_X11_areWorths_l13  : Nat → Option Nat → Int32 → ab_HP → Option Int32
  | 0, _, _, _ => none
  | n + 1, i0, i1, h =>
    if 10 ≤ i1 then (some 1)
    else ((i0).bind fun q4 =>
    (f_X6_read q4 i1 h).bind fun w5 =>
    if w5 < (-999) then (some 0)
    else (if w5 ≤ 999 then (f_X11_areWorths_l13 n i0 (i1 + (1 : Int32)) h)
    else (some 0)))
def f_X11_areWorths (i0 : Option Nat) (h : ab_HP) : Option Int32 :=
    (i0).bind fun q1 =>
    if (ab_i h q1 3) = 10 then (f_X11_areWorths_l13 1000 i0 0 h)
    else (some 0)
def f_X11_addMoves_l3 (t0 : Nat) : Nat → Int32 → Int32 → Int32 → Int32 → ab_HP → Option ab_HP
  | 0, _, _, _, _, _ => none
  | n + 1, i1, i2, i3, i4, h =>
    if i3 ≤ i4 then (some h)
    else ((f_X11_store (ab_r h t0 6) (ab_i h t0 8) ((((100 : Int32) * i4) + ((10 : Int32) * i1)) + i2) h).bind fun w3 =>
    ab_let (ab_ip w3 t0 8 ((ab_i w3 t0 8) + (1 : Int32))) fun h4 =>
    f_X11_addMoves_l3 t0 n i1 i2 i3 (i4 + (1 : Int32)) h4)
def f_X11_addMoves (t0 : Nat) (i1 : Int32) (i2 : Int32) (i3 : Int32) (h : ab_HP) : Option ab_HP :=
    f_X11_addMoves_l3 t0 1000 i1 i2 i3 0 h
def f_X11_listMoves_l56 (k43 : Int32 → ab_HP → Option ab_HP) (t0 : Nat) : Nat → Int32 → Int32 → ab_HP → Option ab_HP
  | 0, _, _, _ => none
  | n + 1, i1, i2, h =>
    ((ab_r h t0 0)).bind fun q11 =>
    if (ab_i h q11 1) ≤ i2 then (k43 (i1 + (1 : Int32)) h)
    else (if i2 = i1 then (f_X11_listMoves_l56 k43 t0 n i1 (i2 + (1 : Int32)) h)
    else ((f_X11_addMoves t0 i1 i2 4 h).bind fun w14 =>
    f_X11_listMoves_l56 k43 t0 n i1 (i2 + (1 : Int32)) w14))
def f_X11_listMoves_l43 (t0 : Nat) : Nat → Int32 → ab_HP → Option ab_HP
  | 0, _, _ => none
  | n + 1, i1, h =>
    ((ab_r h t0 0)).bind fun q8 =>
    if (ab_i h q8 1) ≤ i1 then (some h)
    else (f_X11_listMoves_l56 (f_X11_listMoves_l43 t0 n) t0 1000 i1 0 h)
def f_X11_listMoves_l16 (t0 : Nat) : Nat → Int32 → ab_HP → Option ab_HP
  | 0, _, _ => none
  | n + 1, i1, h =>
    ((ab_r h t0 0)).bind fun q4 =>
    if (ab_i h q4 1) ≤ i1 then (f_X11_listMoves_l43 t0 1000 0 h)
    else ((f_X11_addMoves t0 i1 9 2 h).bind fun w6 =>
    f_X11_listMoves_l16 t0 n (i1 + (1 : Int32)) w6)
def f_X11_listMoves (t0 : Nat) (h : ab_HP) : Option ab_HP :=
    ab_let (ab_ip h t0 8 0) fun h1 =>
    (f_X11_addMoves t0 9 9 1 h1).bind fun w2 =>
    f_X11_listMoves_l16 t0 1000 0 w2
def f_X11_playMove (t0 : Nat) (i1 : Int32) (i2 : Int32) (i3 : Int32) (h : ab_HP) : Option ab_HP :=
    ((ab_r h t0 3)).bind fun q3 =>
    (f_X10_open q3 (ab_r h t0 0) h).bind fun w4 =>
    ((ab_r w4 t0 0)).bind fun q7 =>
    (f_X9_deedAt q7 ((i1 / (10 : Int32)) - (i1 / (10 : Int32)) / (10 : Int32) * (10 : Int32)) w4).bind fun w8 =>
    ((ab_r w4 t0 3)).bind fun q10 =>
    (f_X10_add q10 w8 w4).bind fun w11 =>
    ((ab_r w11 t0 0)).bind fun q14 =>
    (f_X9_deedAt q14 (i1 - i1 / (10 : Int32) * (10 : Int32)) w11).bind fun w15 =>
    ((ab_r w11 t0 3)).bind fun q17 =>
    (f_X10_add q17 w15 w11).bind fun w18 =>
    ((ab_r w18 t0 3)).bind fun q20 =>
    (f_X10_begin q20 i2 i3 w18).bind fun w21 =>
    ((ab_r w21 t0 3)).bind fun q23 =>
    (f_X10_evenYear q23 (i1 / (100 : Int32)) w21).bind fun w24 =>
    ((ab_r w24 t0 3)).bind fun q26 =>
    (f_X10_oddYear q26 w24).bind fun w27 =>
    some w27
def f_X11_worthOfMarks_l4  : Nat → Int32 → Option Nat → Int32 → Int32 → ab_HP → Option Int32
  | 0, _, _, _, _, _ => none
  | n + 1, i0, i1, i2, i3, h =>
    if 10 ≤ i3 then (some i2)
    else (if ((i0 >>> (i3 &&& 31)) &&& (1 : Int32)) = 0 then (f_X11_worthOfMarks_l4 n i0 i1 i2 (i3 + (1 : Int32)) h)
    else ((i1).bind fun q3 =>
    (f_X6_read q3 i3 h).bind fun w4 =>
    f_X11_worthOfMarks_l4 n i0 i1 (i2 + w4) (i3 + (1 : Int32)) h))
def f_X11_worthOfMarks (i0 : Int32) (i1 : Option Nat) (h : ab_HP) : Option Int32 :=
    f_X11_worthOfMarks_l4 1000 i0 i1 0 0 h
def f_X11_worthOfMove_l61 (t0 : Nat) : Nat → Option Nat → Int32 → Int32 → Int32 → Int32 → ab_HP → Option (Int32 × ab_HP)
  | 0, _, _, _, _, _, _ => none
  | n + 1, i3, i4, i5, i6, i7, h =>
    if (ab_i h t0 8) ≤ i7 then (some (i4, h))
    else ((f_X11_at (ab_r h t0 6) i7 h).bind fun w16 =>
    (f_X11_playMove t0 w16 i5 i6 h).bind fun w17 =>
    ((ab_r w17 t0 3)).bind fun q19 =>
    (f_X11_worthOfMarks (ab_i w17 q19 6) i3 w17).bind fun w20 =>
    f_X11_worthOfMove_l61 t0 n i3 (if i4 < w20 then w20 else i4) i5 i6 (i7 + (1 : Int32)) w17)
def f_X11_worthOfMove (t0 : Nat) (i1 : Int32) (i2 : Int32) (i3 : Option Nat) (h : ab_HP) : Option (Int32 × ab_HP) :=
    ((ab_r h t0 0)).bind fun q2 =>
    ((ab_r h t0 0)).bind fun q4 =>
    (f_X11_playMove t0 i1 (ab_i h q2 2) (ab_i h q4 3) h).bind fun w5 =>
    ((ab_r w5 t0 3)).bind fun q7 =>
    (f_X11_worthOfMarks (ab_i w5 q7 6) i3 w5).bind fun w8 =>
    if i2 = 1 then (some (w8, w5))
    else (((ab_r w5 t0 3)).bind fun q11 =>
    ((ab_r w5 t0 3)).bind fun q13 =>
    f_X11_worthOfMove_l61 t0 1000 i3 w8 (ab_i w5 q11 6) (ab_i w5 q13 7) 1 w5)
def f_X11_endedSoBefore_l2 (t0 : Nat) : Nat → Int32 → Int32 → ab_HP → Option Int32
  | 0, _, _, _ => none
  | n + 1, i1, i2, h =>
    if i1 ≤ i2 then (some 0)
    else ((f_X11_at (ab_r h t0 7) i2 h).bind fun w3 =>
    (f_X11_at (ab_r h t0 7) i1 h).bind fun w5 =>
    if w3 = w5 then (some 1)
    else (f_X11_endedSoBefore_l2 t0 n i1 (i2 + (1 : Int32)) h))
def f_X11_endedSoBefore (t0 : Nat) (i1 : Int32) (h : ab_HP) : Option Int32 :=
    f_X11_endedSoBefore_l2 t0 1000 i1 0 h
def f_X11_bestMove_l21 (t0 : Nat) : Nat → Int32 → Option Nat → Int32 → Int32 → Int32 → ab_HP → Option (Int32 × ab_HP)
  | 0, _, _, _, _, _, _ => none
  | n + 1, i1, i2, i3, i4, i5, h =>
    if (ab_i h t0 8) ≤ i5 then (some (i3, h))
    else ((f_X11_at (ab_r h t0 6) i5 h).bind fun w6 =>
    ((ab_r h t0 0)).bind fun q8 =>
    ((ab_r h t0 0)).bind fun q10 =>
    (f_X11_playMove t0 w6 (ab_i h q8 2) (ab_i h q10 3) h).bind fun w11 =>
    ((ab_r w11 t0 3)).bind fun q14 =>
    ((ab_r w11 t0 3)).bind fun q16 =>
    (f_X11_store (ab_r w11 t0 7) i5 (((10000 : Int32) * (ab_i w11 q14 6)) + (ab_i w11 q16 7)) w11).bind fun w17 =>
    (f_X11_endedSoBefore t0 i5 w17).bind fun w18 =>
    if w18 = 0 then ((f_X11_worthOfMove t0 w6 i1 i2 w17).bind fun w21 =>
    if w21.1 ≤ i4 then (f_X11_bestMove_l21 t0 n i1 i2 i3 i4 (i5 + (1 : Int32)) w21.2)
    else (f_X11_bestMove_l21 t0 n i1 i2 w6 w21.1 (i5 + (1 : Int32)) w21.2))
    else (f_X11_bestMove_l21 t0 n i1 i2 i3 i4 (i5 + (1 : Int32)) w17))
def f_X11_bestMove (t0 : Nat) (i1 : Int32) (i2 : Option Nat) (h : ab_HP) : Option (Int32 × ab_HP) :=
    (f_X11_at (ab_r h t0 6) 0 h).bind fun w2 =>
    (f_X11_worthOfMove t0 w2 i1 i2 h).bind fun w3 =>
    f_X11_bestMove_l21 t0 1000 i1 i2 w2 w3.1 0 w3.2
def f_X11_plan_b58 (t0 : Nat) (i1 : Int32) (i3 : Int32) (i4 : Option Nat) (i5 : Int32) (h : ab_HP) : Option (Int32 × ab_HP) :=
    if i5 = 0 then ((f_X11_listMoves t0 h).bind fun w14 =>
    (f_X11_bestMove t0 i1 i4 w14).bind fun w15 =>
    if i3 = 1 then (some (w15.1, w15.2))
    else ((f_X11_worthOfMove t0 w15.1 i1 i4 w15.2).bind fun w17 =>
    some (w17.1, w17.2)))
    else (some (((-1000000000 : Int32) + i5), h))
def f_X11_plan (t0 : Nat) (i1 : Int32) (i2 : Int32) (i3 : Int32) (h : ab_HP) : Option (Int32 × ab_HP) :=
    (f_X11_shelfAt t0 i2 h).bind fun w1 =>
    (w1).elim (some ((-1000000001), h))
    (fun q3 => if i1 < 1 then (some ((-1000000001), h))
    else (if 2 < i1 then (some ((-1000000001), h))
    else (if i3 < 0 then (some ((-1000000001), h))
    else (if i3 ≤ 1 then ((f_X6_rowRefusal q3 h).bind fun w8 =>
    if w8 = 0 then ((f_X11_areWorths w1 h).bind fun w10 =>
    if w10 = 0 then (f_X11_plan_b58 t0 i1 i3 w1 (-13) h)
    else (f_X11_plan_b58 t0 i1 i3 w1 w8 h))
    else (f_X11_plan_b58 t0 i1 i3 w1 w8 h))
    else (some ((-1000000001), h))))))
def f_X11_ever_l18 (k10 : Int32 → Int32 → ab_HP → Option Int32) (t0 : Nat) : Nat → Int32 → Int32 → Int32 → ab_HP → Option Int32
  | 0, _, _, _, _ => none
  | n + 1, i1, i2, i3, h =>
    ((ab_r h t0 0)).bind fun q5 =>
    if (ab_i h q5 1) ≤ i3 then (k10 i1 (i2 + (1 : Int32)) h)
    else (((ab_r h t0 0)).bind fun q8 =>
    (f_X9_deedAt q8 i3 h).bind fun w9 =>
    (w9).elim (f_X11_ever_l18 k10 t0 n i1 i2 (i3 + (1 : Int32)) h)
    (fun q11 => (f_X1_hasGround q11 i1 h).bind fun w12 =>
    if w12 = 0 then (f_X11_ever_l18 k10 t0 n i1 i2 (i3 + (1 : Int32)) h)
    else (f_X11_ever_l18 k10 t0 n (i1 ||| (ab_i h q11 8)) i2 (i3 + (1 : Int32)) h)))
def f_X11_ever_l10 (t0 : Nat) : Nat → Int32 → Int32 → ab_HP → Option Int32
  | 0, _, _, _ => none
  | n + 1, i1, i2, h =>
    if 10 ≤ i2 then (some i1)
    else (f_X11_ever_l18 (f_X11_ever_l10 t0 n) t0 1000 i1 i2 0 h)
def f_X11_ever (t0 : Nat) (h : ab_HP) : Option Int32 :=
    ((ab_r h t0 0)).bind fun q2 =>
    f_X11_ever_l10 t0 1000 (ab_i h q2 2) 0 h
def f_X11_help_l4 (t0 : Nat) : Nat → Int32 → Int32 → ab_HP → Option Int32
  | 0, _, _, _ => none
  | n + 1, i1, i2, h =>
    ((ab_r h t0 0)).bind fun q2 =>
    if (ab_i h q2 1) ≤ i2 then (some i1)
    else (((ab_r h t0 0)).bind fun q5 =>
    (f_X9_deedAt q5 i2 h).bind fun w6 =>
    (w6).elim (f_X11_help_l4 t0 n i1 (i2 + (1 : Int32)) h)
    (fun q8 => ((ab_r h t0 0)).bind fun q10 =>
    ((ab_r h t0 0)).bind fun q12 =>
    (f_X1_mayBeDone q8 (ab_i h q10 2) (ab_i h q12 3) h).bind fun w13 =>
    if w13 = 0 then (f_X11_help_l4 t0 n i1 (i2 + (1 : Int32)) h)
    else (((ab_r h t0 0)).bind fun q17 =>
    ab_let (i1 ||| ((ab_i h q17 2) &&& (ab_i h q8 9))) fun v18 =>
    f_X11_help_l4 t0 n v18 (i2 + (1 : Int32)) h)))
def f_X11_help (t0 : Nat) (h : ab_HP) : Option Int32 :=
    f_X11_help_l4 t0 1000 0 0 h
def f_X11_playTwo_b89 (k20 : Option Nat → Option Nat → Int32 → Int32 → Int32 → Int32 → Int32 → ab_HP → Option (Int32 × ab_HP)) (t0 : Nat) (i1 : Option Nat) (i2 : Option Nat) (i3 : Int32) (i4 : Int32) (i5 : Int32) (i6 : Int32) (i7 : Int32) (h : ab_HP) : Option (Int32 × ab_HP) :=
    (i2).bind fun q25 =>
    if (ab_i h q25 3) ≤ i7 then (k20 i1 i2 i3 i4 i5 i6 (i7 + (1 : Int32)) h)
    else (((ab_r h t0 3)).bind fun q28 =>
    ab_let (i6 ||| (((i4 >>> (i7 &&& 31)) &&& (1 : Int32)) <<< ((ab_i h q28 5) &&& 31))) fun v29 =>
    (f_X6_read q25 i7 h).bind fun w32 =>
    ((ab_r h t0 0)).bind fun q33 =>
    (f_X9_deedAt q33 w32 h).bind fun w34 =>
    ((ab_r h t0 3)).bind fun q36 =>
    (f_X10_add q36 w34 h).bind fun w37 =>
    k20 i1 i2 i3 i4 i5 v29 (i7 + (1 : Int32)) w37)
def f_X11_playTwo_l20 (t0 : Nat) : Nat → Option Nat → Option Nat → Int32 → Int32 → Int32 → Int32 → Int32 → ab_HP → Option (Int32 × ab_HP)
  | 0, _, _, _, _, _, _, _, _ => none
  | n + 1, i1, i2, i3, i4, i5, i6, i7, h =>
    if 8 ≤ i7 then (((ab_r h t0 3)).bind fun q7 =>
    (f_X10_play q7 i6 h).bind fun w8 =>
    some (i5, w8))
    else ((i1).bind fun q9 =>
    if (ab_i h q9 3) ≤ i7 then (f_X11_playTwo_b89 (f_X11_playTwo_l20 t0 n) t0 i1 i2 i3 i4 i5 i6 i7 h)
    else (((ab_r h t0 3)).bind fun q12 =>
    ab_let (i5 ||| ((1 : Int32) <<< ((ab_i h q12 5) &&& 31))) fun v13 =>
    ((ab_r h t0 3)).bind fun q15 =>
    ab_let (i6 ||| (((i3 >>> (i7 &&& 31)) &&& (1 : Int32)) <<< ((ab_i h q15 5) &&& 31))) fun v16 =>
    (f_X6_read q9 i7 h).bind fun w19 =>
    ((ab_r h t0 0)).bind fun q20 =>
    (f_X9_deedAt q20 w19 h).bind fun w21 =>
    ((ab_r h t0 3)).bind fun q23 =>
    (f_X10_add q23 w21 h).bind fun w24 =>
    f_X11_playTwo_b89 (f_X11_playTwo_l20 t0 n) t0 i1 i2 i3 i4 v13 v16 i7 w24))
def f_X11_playTwo (t0 : Nat) (i1 : Option Nat) (i2 : Option Nat) (i3 : Int32) (i4 : Int32) (h : ab_HP) : Option (Int32 × ab_HP) :=
    ((ab_r h t0 3)).bind fun q3 =>
    (f_X10_open q3 (ab_r h t0 0) h).bind fun w4 =>
    f_X11_playTwo_l20 t0 1000 i1 i2 i3 i4 0 0 0 w4
def f_X11_two_b71 (t0 : Nat) (i3 : Int32) (i4 : Int32) (i5 : Int32) (i6 : Option Nat) (i7 : Option Nat) (i8 : Int32) (h : ab_HP) : Option (Int32 × ab_HP) :=
    if i8 = 0 then ((f_X11_playTwo t0 i6 i7 i3 i4 h).bind fun w19 =>
    ((ab_r w19.2 t0 3)).bind fun q21 =>
    (f_X10_standing q21 w19.2).bind fun w22 =>
    if i5 = 0 then ((f_J6_bitCount_0f7a4 (w22 &&& w19.1) w19.2).bind fun w25 =>
    some (w25, w19.2))
    else ((f_J6_bitCount_0f7a4 (w22 &&& (w19.1 ^^^ (-1 : Int32))) w19.2).bind fun w24 =>
    some (w24, w19.2)))
    else (some (i8, h))
def f_X11_two (t0 : Nat) (i1 : Int32) (i2 : Int32) (i3 : Int32) (i4 : Int32) (i5 : Int32) (h : ab_HP) : Option (Int32 × ab_HP) :=
    (f_X11_shelfAt t0 i1 h).bind fun w1 =>
    (f_X11_shelfAt t0 i2 h).bind fun w3 =>
    (w1).elim (some ((-1), h))
    (fun q5 => (w3).elim (some ((-1), h))
    (fun q6 => (f_X11_areNails i3 h).bind fun w7 =>
    if w7 = 0 then (some ((-1), h))
    else ((f_X11_areNails i4 h).bind fun w10 =>
    if w10 = 0 then (some ((-1), h))
    else (if i5 < 0 then (some ((-1), h))
    else (if i5 ≤ 1 then ((f_X11_listRefusal t0 i1 h).bind fun w15 =>
    if w15 = 0 then ((f_X11_listRefusal t0 i2 h).bind fun w17 =>
    f_X11_two_b71 t0 i3 i4 i5 w1 w3 w17 h)
    else (f_X11_two_b71 t0 i3 i4 i5 w1 w3 w15 h))
    else (some ((-1), h)))))))
def f_X11_month_l4 (t0 : Nat) : Nat → Int32 → Int32 → ab_HP → Option Int32
  | 0, _, _, _ => none
  | n + 1, i1, i2, h =>
    if 8 ≤ i2 then (some i1)
    else (((ab_r h t0 0)).bind fun q3 =>
    (f_X9_nailCost q3 i2 h).bind fun w4 =>
    ((ab_r h t0 0)).bind fun q6 =>
    (f_X9_nailCost q6 i1 h).bind fun w7 =>
    if w7 ≤ w4 then (f_X11_month_l4 t0 n i1 (i2 + (1 : Int32)) h)
    else (f_X11_month_l4 t0 n i2 (i2 + (1 : Int32)) h))
def f_X11_month (t0 : Nat) (h : ab_HP) : Option Int32 :=
    f_X11_month_l4 t0 1000 0 1 h
def f_X11_nail (t0 : Nat) (i1 : Int32) (h : ab_HP) : Option Int32 :=
    if i1 < 0 then (some (-1))
    else (if i1 < 8 then (((ab_r h t0 0)).bind fun q4 =>
    (f_X9_nailCost q4 i1 h).bind fun w5 =>
    some w5)
    else (some (-1)))
def f_X11_byLaw (t0 : Nat) (i1 : Int32) (i2 : Int32) (i3 : Int32) (h : ab_HP) : Option (Int32 × ab_HP) :=
    if i1 < 0 then (some ((-1), h))
    else (if 3 ≤ i1 then (some ((-1), h))
    else ((f_X11_areNails i3 h).bind fun w3 =>
    if w3 = 0 then (some ((-1), h))
    else ((f_X11_takeList t0 i2 h).bind fun w6 =>
    if w6.1 = 0 then (((ab_r w6.2 t0 3)).bind fun q9 =>
    ab_let (ab_ip w6.2 q9 4 i1) fun h10 =>
    ((ab_r h10 t0 3)).bind fun q12 =>
    (f_X10_play q12 i3 h10).bind fun w13 =>
    ((ab_r w13 t0 3)).bind fun q15 =>
    (f_J6_bitCount_0f7a4 (ab_i w13 q15 6) w13).bind fun w16 =>
    some (w16, w13))
    else (some (w6.1, w6.2)))))
def f_X11_nextSeed (i0 : Int32) (h : ab_HP) : Option Int32 :=
    some ((i0 * (1103515245 : Int32)) + (12345 : Int32))
def f_X11_drawn (i0 : Int32) (i1 : Int32) (h : ab_HP) : Option Int32 :=
    if (0 : Int32) < i1 then (if i1 = 0 then none else
    some (((i0 &&& (2147483647 : Int32)) / (65536 : Int32)) - ((i0 &&& (2147483647 : Int32)) / (65536 : Int32)) / i1 * i1))
    else (some 0)
def f_X11_playSeeds_l66 (k29 : Int32 → Int32 → Int32 → Int32 → ab_HP → Option (Int32 × ab_HP)) (t0 : Nat) : Nat → Int32 → Int32 → Int32 → Int32 → Int32 → Int32 → ab_HP → Option (Int32 × ab_HP)
  | 0, _, _, _, _, _, _, _ => none
  | n + 1, i1, i3, i4, i5, i6, i7, h =>
    if i6 ≤ i7 then ((f_X11_nextSeed i4 h).bind fun w16 =>
    ((ab_r h t0 3)).bind fun q19 =>
    ((ab_r h t0 3)).bind fun q21 =>
    (f_X10_begin q21 (ab_i h q19 6) (ab_i h q21 7) h).bind fun w22 =>
    (f_X11_drawn w16 ((1 : Int32) <<< (i6 &&& 31)) w22).bind fun w24 =>
    ((ab_r w22 t0 3)).bind fun q25 =>
    (f_X10_evenYear q25 w24 w22).bind fun w26 =>
    ((ab_r w26 t0 3)).bind fun q28 =>
    (f_X10_oddYear q28 w26).bind fun w29 =>
    ((ab_r w29 t0 3)).bind fun q31 =>
    (f_J6_bitCount_0f7a4 (ab_i w29 q31 10) w29).bind fun w32 =>
    k29 i1 (i3 + w32) w16 (i5 + (1 : Int32)) w29)
    else ((f_X11_nextSeed i4 h).bind fun w33 =>
    ((ab_r h t0 0)).bind fun q37 =>
    (f_X11_drawn w33 (ab_i h q37 1) h).bind fun w38 =>
    (f_X9_deedAt q37 w38 h).bind fun w39 =>
    ((ab_r h t0 3)).bind fun q41 =>
    (f_X10_add q41 w39 h).bind fun w42 =>
    f_X11_playSeeds_l66 k29 t0 n i1 i3 w33 i5 i6 (i7 + (1 : Int32)) w42)
def f_X11_playSeeds_l29 (t0 : Nat) : Nat → Int32 → Int32 → Int32 → Int32 → ab_HP → Option (Int32 × ab_HP)
  | 0, _, _, _, _, _ => none
  | n + 1, i1, i3, i4, i5, h =>
    if i1 ≤ i5 then (some (i3, h))
    else (((ab_r h t0 3)).bind fun q11 =>
    (f_X10_open q11 (ab_r h t0 0) h).bind fun w12 =>
    (f_X11_nextSeed i4 w12).bind fun w13 =>
    (f_X11_drawn w13 4 w12).bind fun w14 =>
    f_X11_playSeeds_l66 (f_X11_playSeeds_l29 t0 n) t0 1000 i1 i3 w13 i5 ((1 : Int32) + w14) 0 w12)
def f_X11_playSeeds (t0 : Nat) (i1 : Int32) (i2 : Int32) (h : ab_HP) : Option (Int32 × ab_HP) :=
    ((ab_r h t0 0)).bind fun q3 =>
    ((ab_r h t0 0)).bind fun q5 =>
    ((ab_r h t0 3)).bind fun q6 =>
    (f_X10_begin q6 (ab_i h q3 2) (ab_i h q5 3) h).bind fun w7 =>
    f_X11_playSeeds_l29 t0 1000 i1 0 i2 0 w7
def f_X11_seeded (t0 : Nat) (i1 : Int32) (i2 : Int32) (i3 : Int32) (h : ab_HP) : Option (Int32 × ab_HP) :=
    if i1 < 1 then (some ((-1), h))
    else (if 30 < i1 then (some ((-1), h))
    else (if i3 < 0 then (some ((-1), h))
    else (if i3 ≤ 2 then (((ab_r h t0 0)).bind fun q6 =>
    if (ab_i h q6 1) = 0 then (some ((-3), h))
    else ((f_X11_playSeeds t0 i1 i2 h).bind fun w8 =>
    if i3 = 0 then (((ab_r w8.2 t0 3)).bind fun q14 =>
    some ((ab_i w8.2 q14 6), w8.2))
    else (if i3 = 1 then (((ab_r w8.2 t0 3)).bind fun q12 =>
    some ((ab_i w8.2 q12 7), w8.2))
    else (some (w8.1, w8.2)))))
    else (some ((-1), h)))))
def f_X11_firstWrong_b102 (k23 : Option Nat → Int32 → Int32 → ab_HP → Option (Int32 × ab_HP)) (t0 : Nat) (i1 : Option Nat) (i2 : Int32) (i3 : Int32) (h : ab_HP) : Option (Int32 × ab_HP) :=
    if (0 : Int32) = 0 then ((i1).bind fun q35 =>
    (f_X6_read q35 i3 h).bind fun w36 =>
    (f_X6_leastNumber q35 h).bind fun w37 =>
    if w36 = w37 then (k23 i1 i2 (i3 + (1 : Int32)) h)
    else (some (i3, h)))
    else (k23 i1 i2 (i3 + (1 : Int32)) h)
def f_X11_firstWrong_b72 (k23 : Option Nat → Int32 → Int32 → ab_HP → Option (Int32 × ab_HP)) (t0 : Nat) (i1 : Option Nat) (i2 : Int32) (i3 : Int32) (h : ab_HP) : Option (Int32 × ab_HP) :=
    ((ab_r h t0 3)).bind fun q23 =>
    if (ab_i h q23 5) < i3 then (f_X11_firstWrong_b102 k23 t0 i1 i2 i3 h)
    else ((i1).bind fun q25 =>
    (f_X6_read q25 i3 h).bind fun w26 =>
    ((ab_r h t0 3)).bind fun q28 =>
    if w26 = (ab_i h q28 6) then (if (1 : Int32) = 0 then ((f_X6_read q25 i3 h).bind fun w31 =>
    (f_X6_leastNumber q25 h).bind fun w32 =>
    if w31 = w32 then (k23 i1 i2 (i3 + (1 : Int32)) h)
    else (some (i3, h)))
    else (k23 i1 i2 (i3 + (1 : Int32)) h))
    else (f_X11_firstWrong_b102 k23 t0 i1 i2 i3 h))
def f_X11_firstWrong_l23 (t0 : Nat) : Nat → Option Nat → Int32 → Int32 → ab_HP → Option (Int32 × ab_HP)
  | 0, _, _, _, _ => none
  | n + 1, i1, i2, i3, h =>
    (i1).bind fun q8 =>
    if (ab_i h q8 3) ≤ i3 then (some ((-4), h))
    else (((ab_r h t0 3)).bind fun q11 =>
    if (ab_i h q11 5) ≤ i3 then (((ab_r h t0 3)).bind fun q14 =>
    if i3 = (ab_i h q14 5) then (((ab_r h t0 3)).bind fun q17 =>
    (f_X10_oddYear q17 h).bind fun w18 =>
    f_X11_firstWrong_b72 (f_X11_firstWrong_l23 t0 n) t0 i1 i2 i3 w18)
    else (f_X11_firstWrong_b72 (f_X11_firstWrong_l23 t0 n) t0 i1 i2 i3 h))
    else (((ab_r h t0 3)).bind fun q20 =>
    (f_X10_evenPlace q20 i3 i2 h).bind fun w21 =>
    f_X11_firstWrong_b72 (f_X11_firstWrong_l23 t0 n) t0 i1 i2 i3 w21))
def f_X11_firstWrong (t0 : Nat) (i1 : Option Nat) (i2 : Int32) (h : ab_HP) : Option (Int32 × ab_HP) :=
    ((ab_r h t0 0)).bind fun q3 =>
    ((ab_r h t0 0)).bind fun q5 =>
    ((ab_r h t0 3)).bind fun q6 =>
    (f_X10_begin q6 (ab_i h q3 2) (ab_i h q5 3) h).bind fun w7 =>
    f_X11_firstWrong_l23 t0 1000 i1 i2 0 w7
def f_X11_judge_b40 (t0 : Nat) (i2 : Int32) (i4 : Option Nat) (i5 : Int32) (h : ab_HP) : Option (Int32 × ab_HP) :=
    if i5 = 0 then ((f_X11_firstWrong t0 i4 i2 h).bind fun w11 =>
    some (w11.1, w11.2))
    else (some (i5, h))
def f_X11_judge (t0 : Nat) (i1 : Int32) (i2 : Int32) (i3 : Int32) (h : ab_HP) : Option (Int32 × ab_HP) :=
    (f_X11_shelfAt t0 i3 h).bind fun w1 =>
    (w1).elim (some ((-1), h))
    (fun q3 => (f_X11_areNails i2 h).bind fun w4 =>
    if w4 = 0 then (some ((-1), h))
    else ((f_X11_takeList t0 i1 h).bind fun w7 =>
    if w7.1 = 0 then ((f_X6_rowRefusal q3 w7.2).bind fun w9 =>
    f_X11_judge_b40 t0 i2 w1 w9 w7.2)
    else (f_X11_judge_b40 t0 i2 w1 w7.1 w7.2)))
def f_X11_image (t0 : Nat) (h : ab_HP) : Option (Int32 × ab_HP) :=
    ((ab_r h t0 1)).bind fun q3 =>
    (f_X9_become q3 (ab_r h t0 0) h).bind fun w4 =>
    ab_let (ab_ip w4 t0 9 1) fun h5 =>
    ((ab_r h5 t0 0)).bind fun q7 =>
    some ((ab_i h5 q7 7), h5)
def f_X11_restore (t0 : Nat) (h : ab_HP) : Option (Int32 × ab_HP) :=
    if (ab_i h t0 9) = 0 then (some ((-3), h))
    else (((ab_r h t0 0)).bind fun q4 =>
    (f_X9_become q4 (ab_r h t0 1) h).bind fun w5 =>
    ((ab_r w5 t0 0)).bind fun q7 =>
    some ((ab_i w5 q7 7), w5))
def f_X11_counted (t0 : Nat) (i1 : Option Nat) (i2 : Int32) (h : ab_HP) : Option Int32 :=
    (i1).elim (some 0)
    (fun q1 => if i2 = 2 then (((ab_r h t0 0)).bind fun q4 =>
    ((ab_r h t0 0)).bind fun q6 =>
    (f_X1_mayBeDone q1 (ab_i h q4 2) (ab_i h q6 3) h).bind fun w7 =>
    if w7 = 0 then (some 0)
    else (some 1))
    else if i2 = 3 then (if (ab_i h q1 10) = 0 then (some 0)
    else (some 1))
    else if i2 = 4 then (if (ab_i h q1 5) = 6 then (some 1)
    else (some 0))
    else (some (ab_i h q1 3)))
def f_X11_count_l43 (t0 : Nat) : Nat → Int32 → Int32 → Int32 → ab_HP → Option Int32
  | 0, _, _, _, _ => none
  | n + 1, i1, i2, i3, h =>
    ((ab_r h t0 0)).bind fun q11 =>
    if (ab_i h q11 1) ≤ i3 then (some i2)
    else (((ab_r h t0 0)).bind fun q14 =>
    (f_X9_deedAt q14 i3 h).bind fun w15 =>
    (f_X11_counted t0 w15 i1 h).bind fun w17 =>
    f_X11_count_l43 t0 n i1 (i2 + w17) (i3 + (1 : Int32)) h)
def f_X11_count (t0 : Nat) (i1 : Int32) (h : ab_HP) : Option Int32 :=
    if i1 = 0 then (((ab_r h t0 0)).bind fun q9 =>
    some (ab_i h q9 1))
    else (if i1 = 1 then (((ab_r h t0 0)).bind fun q6 =>
    (f_J6_bitCount_0f7a4 (ab_i h q6 2) h).bind fun w7 =>
    some w7)
    else (if i1 < 0 then (some (-1))
    else (if i1 ≤ 5 then (f_X11_count_l43 t0 1000 i1 0 0 h)
    else (some (-1)))))
def f_X11_keep_b54 (t0 : Nat) (i4 : Option Nat) (i5 : Option Nat) (h : ab_HP) : Option (Int32 × ab_HP) :=
    (i4).bind fun q15 =>
    (f_X6_hold q15 i5 h).bind fun w16 =>
    some (0, w16)
def f_X11_keep (t0 : Nat) (i1 : Int32) (i2 : Int32) (i3 : Int32) (h : ab_HP) : Option (Int32 × ab_HP) :=
    (f_X11_shelfAt t0 i1 h).bind fun w1 =>
    (w1).elim (some ((-1), h))
    (fun q3 => if i2 < 0 then (some ((-1), h))
    else (if i2 ≤ 1 then (if i2 = 1 then (((ab_r h t0 0)).bind fun q10 =>
    (f_X9_deedAt q10 i3 h).bind fun w11 =>
    if i2 = 1 then ((w11).elim (some ((-1), h))
    (fun q14 => f_X11_keep_b54 t0 w1 w11 h))
    else (f_X11_keep_b54 t0 w1 w11 h))
    else (if i2 = 1 then ((none : Option Nat).elim (some ((-1), h))
    (fun q8 => f_X11_keep_b54 t0 w1 none h))
    else (f_X11_keep_b54 t0 w1 none h)))
    else (some ((-1), h))))
def f_X11_row (t0 : Nat) (i1 : Int32) (i2 : Int32) (i3 : Int32) (h : ab_HP) : Option (Int32 × ab_HP) :=
    (f_X11_shelfAt t0 i1 h).bind fun w1 =>
    (w1).elim (some ((-1), h))
    (fun q3 => if i2 < 0 then (some ((-1), h))
    else (if 2 < i2 then (some ((-1), h))
    else (if i3 ≤ 100 then (if (0 : Int32) ≤ i3 then ((f_X6_holdRow q3 i2 i3 h).bind fun w8 =>
    some (0, w8))
    else (some ((-14), h)))
    else (some ((-1), h)))))
def f_X11_put (t0 : Nat) (i1 : Int32) (i2 : Int32) (i3 : Int32) (h : ab_HP) : Option (Int32 × ab_HP) :=
    (f_X11_shelfAt t0 i1 h).bind fun w1 =>
    (w1).elim (some ((-1), h))
    (fun q3 => (f_X6_rowRefusal q3 h).bind fun w4 =>
    if w4 = 0 then ((f_X6_write q3 i2 i3 h).bind fun w6 =>
    if w6.1 = 0 then (some ((-13), w6.2))
    else (some (0, w6.2)))
    else (some (w4, h)))
def f_X11_copy (t0 : Nat) (i1 : Int32) (i2 : Int32) (i3 : Int32) (i4 : Int32) (i5 : Int32) (h : ab_HP) : Option (Int32 × ab_HP) :=
    (f_X11_shelfAt t0 i1 h).bind fun w1 =>
    (f_X11_shelfAt t0 i3 h).bind fun w3 =>
    (w1).elim (some ((-1), h))
    (fun q5 => (w3).elim (some ((-1), h))
    (fun q6 => (f_X6_isEmpty q5 h).bind fun w7 =>
    if w7 = 0 then ((f_X6_isEmpty q6 h).bind fun w10 =>
    if w10 = 0 then ((f_X6_rowRefusal q5 h).bind fun w13 =>
    if w13 = 0 then ((f_X6_rowRefusal q6 h).bind fun w15 =>
    if w15 = 0 then (if (ab_i h q5 2) = (ab_i h q6 2) then ((f_X6_hasPlaces q5 i2 i5 h).bind fun w18 =>
    if w18 = 0 then (some ((-13), h))
    else ((f_X6_hasPlaces q6 i4 i5 h).bind fun w21 =>
    if w21 = 0 then (some ((-13), h))
    else (((ab_r h q6 0)).bind fun q26 =>
    ((ab_r h q5 0)).bind fun q27 =>
    if ab_cpok i2 i4 i5 (ab_shp q27).2 (ab_shp q26).2 = true then
    (ab_let (ab_cp h q27 i2.toNatClampNeg q26 i4.toNatClampNeg i5.toNatClampNeg) fun h29 =>
    some (i5, h29)) else none)))
    else (some ((-12), h)))
    else (some ((-12), h)))
    else (some ((-12), h)))
    else (some ((-11), h)))
    else (some ((-11), h))))
def f_X11_care (t0 : Nat) (i1 : Int32) (h : ab_HP) : Option Int32 :=
    (f_X11_shelfAt t0 i1 h).bind fun w1 =>
    (w1).elim (some (-1))
    (fun q3 => ((ab_r h q3 1)).elim ((f_X6_deedRefusal q3 h).bind fun w6 =>
    some w6)
    (fun q5 => some (ab_i h q5 11)))
