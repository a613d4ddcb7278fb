def f_J6_bitCount_0f7a4 (i0 : Int32) (h : ab_HP) : Option Int32 :=
    ab_let (i0 - (((i0.toUInt32 >>> ((1 : Int32).toUInt32 &&& Int32.toUInt32 31)).toInt32) &&& (1431655765 : Int32))) fun v1 =>
    ab_let ((v1 &&& (858993459 : Int32)) + (((v1.toUInt32 >>> ((2 : Int32).toUInt32 &&& Int32.toUInt32 31)).toInt32) &&& (858993459 : Int32))) fun v2 =>
    ab_let ((v2 + ((v2.toUInt32 >>> ((4 : Int32).toUInt32 &&& Int32.toUInt32 31)).toInt32)) &&& (252645135 : Int32)) fun v3 =>
    ab_let (v3 + ((v3.toUInt32 >>> ((8 : Int32).toUInt32 &&& Int32.toUInt32 31)).toInt32)) fun v4 =>
    ab_let (v4 + ((v4.toUInt32 >>> ((16 : Int32).toUInt32 &&& Int32.toUInt32 31)).toInt32)) fun v5 =>
    some (v5 &&& (63 : Int32))
def f_X9_init (t0 : Nat) (h : ab_HP) : Option ab_HP :=
    if ab_shp h.1 = (8, 8) then
    (ab_let (ab_nw h) fun h2 =>
    ab_let (ab_rp h2 t0 0 (some h.1)) fun h3 =>
    ab_let (ab_ip h3 t0 3 100) fun h4 =>
    ab_let (ab_ip h4 t0 5 10) fun h5 =>
    some h5) else none
def f_X10_init (t0 : Nat) (h : ab_HP) : Option ab_HP :=
    if ab_shp h.1 = (8, 16) then
    (ab_let (ab_nw h) fun h2 =>
    ab_let (ab_rp h2 t0 0 (some h.1)) fun h3 =>
    if ab_shp h3.1 = (6, 16) then
    (ab_let (ab_nw h3) fun h5 =>
    ab_let (ab_rp h5 t0 1 (some h3.1)) fun h6 =>
    if ab_shp h6.1 = (6, 16) then
    (ab_let (ab_nw h6) fun h8 =>
    ab_let (ab_rp h8 t0 2 (some h6.1)) fun h9 =>
    some h9) else none) else none) else none
def f_X6_init (t0 : Nat) (h : ab_HP) : Option ab_HP :=
    if ab_shp h.1 = (6, 100) then
    (ab_let (ab_nw h) fun h2 =>
    ab_let (ab_rp h2 t0 0 (some h.1)) fun h3 =>
    ab_let (ab_ip h3 t0 2 (-1)) fun h4 =>
    some h4) else none
def f_X6_isEmpty (t0 : Nat) (h : ab_HP) : Option Int32 :=
    ((ab_r h t0 1)).elim (if (ab_i h t0 2) = (-1) then (some 1)
    else (some 0))
    (fun q2 => some 0)
def f_X6_bytesRefusal (t0 : Nat) (h : ab_HP) : Option Int32 :=
    (f_X6_isEmpty t0 h).bind fun w1 =>
    if w1 = 0 then (if (ab_i h t0 2) = 0 then (some 0)
    else (some (-12)))
    else (some (-11))
def f_X9_deedAt (t0 : Nat) (i1 : Int32) (h : ab_HP) : Option (Option Nat) :=
    if i1 < 0 then (some none)
    else (if (ab_i h t0 1) ≤ i1 then (some none)
    else (((ab_r h t0 0)).bind fun q4 =>
    if (Int32.ofNat (ab_shp q4).2) ≤ i1 then (some none)
    else (((ab_r h t0 0)).bind fun q7 =>
    if ab_in i1 (ab_shp q7).2 = true then
    (some (ab_r h q7 i1.toNatClampNeg)) else none)))
def f_X9_become_l2 (t0 : Nat) : Nat → Option Nat → Int32 → ab_HP → Option ab_HP
  | 0, _, _, _ => none
  | n + 1, i1, i2, h =>
    ((ab_r h t0 0)).bind fun q2 =>
    if (Int32.ofNat (ab_shp q2).2) ≤ i2 then ((i1).bind fun q4 =>
    ab_let (ab_ip h t0 1 (ab_i h q4 1)) fun h5 =>
    ab_let (ab_ip h5 t0 2 (ab_i h5 q4 2)) fun h6 =>
    ab_let (ab_ip h6 t0 3 (ab_i h6 q4 3)) fun h7 =>
    ab_let (ab_ip h7 t0 4 (ab_i h7 q4 4)) fun h8 =>
    ab_let (ab_ip h8 t0 5 (ab_i h8 q4 5)) fun h9 =>
    ab_let (ab_ip h9 t0 6 (ab_i h9 q4 6)) fun h10 =>
    ab_let (ab_ip h10 t0 7 (ab_i h10 q4 7)) fun h11 =>
    some h11)
    else ((i1).bind fun q13 =>
    (f_X9_deedAt q13 i2 h).bind fun w14 =>
    ((ab_r h t0 0)).bind fun q16 =>
    if ab_in i2 (ab_shp q16).2 = true then
    (ab_let (ab_rp h q16 i2.toNatClampNeg w14) fun h18 =>
    f_X9_become_l2 t0 n i1 (i2 + (1 : Int32)) h18) else none)
def f_X9_become (t0 : Nat) (i1 : Option Nat) (h : ab_HP) : Option ab_HP :=
    f_X9_become_l2 t0 1000 i1 0 h
def f_X6_hasPlace (t0 : Nat) (i1 : Int32) (h : ab_HP) : Option Int32 :=
    if i1 < 0 then (some 0)
    else (if (ab_i h t0 3) ≤ i1 then (some 0)
    else (some 1))
def f_X11_at (i0 : Option Nat) (i1 : Int32) (h : ab_HP) : Option Int32 :=
    if i1 < 0 then (some 0)
    else ((i0).bind fun q2 =>
    if (Int32.ofNat (ab_shp q2).2) ≤ i1 then (some 0)
    else (if ab_in i1 (ab_shp q2).2 = true then
    (some (ab_i h q2 i1.toNatClampNeg)) else none))
def f_X6_read (t0 : Nat) (i1 : Int32) (h : ab_HP) : Option Int32 :=
    (f_X6_hasPlace t0 i1 h).bind fun w1 =>
    if w1 = 0 then (some (-2147483648))
    else ((f_X11_at (ab_r h t0 0) i1 h).bind fun w5 =>
    some w5)
def f_X9_isDigit (i0 : Int32) (h : ab_HP) : Option Int32 :=
    if i0 < 48 then (some 0)
    else (if 57 < i0 then (some 0)
    else (some 1))
def f_X9_wrongAt (i0 : Int32) (h : ab_HP) : Option Int32 :=
    some ((-1 : Int32) - i0)
def f_X9_behindDigit (i0 : Option Nat) (i1 : Int32) (h : ab_HP) : Option Int32 :=
    if (0 : Int32) ≤ i1 then ((i0).bind fun q2 =>
    (f_X6_read q2 i1 h).bind fun w3 =>
    (f_X9_isDigit w3 h).bind fun w4 =>
    if w4 = 0 then ((f_X9_wrongAt i1 h).bind fun w7 =>
    some w7)
    else (some (i1 + (1 : Int32))))
    else (some i1)
def f_X9_isLetter (i0 : Int32) (h : ab_HP) : Option Int32 :=
    if i0 < 97 then (some 0)
    else (if 106 < i0 then (some 0)
    else (some 1))
def f_X9_behindNeeds_l7  : Nat → Option Nat → Int32 → Int32 → Int32 → ab_HP → Option Int32
  | 0, _, _, _, _, _ => none
  | n + 1, i0, i2, i3, i4, h =>
    if 10 ≤ i4 then (some i2)
    else ((i0).bind fun q2 =>
    (f_X6_read q2 i2 h).bind fun w3 =>
    (f_X9_isLetter w3 h).bind fun w4 =>
    if w4 = 0 then (some i2)
    else ((f_X6_read q2 i2 h).bind fun w7 =>
    if w7 ≤ i3 then (some i2)
    else ((f_X6_read q2 i2 h).bind fun w9 =>
    f_X9_behindNeeds_l7 n i0 (i2 + (1 : Int32)) w9 (i4 + (1 : Int32)) h)))
def f_X9_behindNeeds (i0 : Option Nat) (i1 : Int32) (h : ab_HP) : Option Int32 :=
    f_X9_behindNeeds_l7 1000 i0 i1 0 0 h
def f_X9_behindSign (i0 : Option Nat) (i1 : Int32) (i2 : Int32) (h : ab_HP) : Option Int32 :=
    if (0 : Int32) ≤ i1 then ((i0).bind fun q2 =>
    (f_X6_read q2 i1 h).bind fun w3 =>
    if w3 = i2 then (some (i1 + (1 : Int32)))
    else ((f_X9_wrongAt i1 h).bind fun w5 =>
    some w5))
    else (some i1)
def f_X9_behindLetter (i0 : Option Nat) (i1 : Int32) (h : ab_HP) : Option Int32 :=
    if (0 : Int32) ≤ i1 then ((i0).bind fun q2 =>
    (f_X6_read q2 i1 h).bind fun w3 =>
    (f_X9_isLetter w3 h).bind fun w4 =>
    if w4 = 0 then ((f_X9_wrongAt i1 h).bind fun w7 =>
    some w7)
    else (some (i1 + (1 : Int32))))
    else (some i1)
def f_X9_behindNumber_l25  : Nat → Option Nat → Int32 → Int32 → Int32 → ab_HP → Option Int32
  | 0, _, _, _, _, _ => none
  | n + 1, i0, i2, i3, i4, h =>
    if i2 ≤ i4 then (some i3)
    else ((i0).bind fun q7 =>
    (f_X6_read q7 i3 h).bind fun w8 =>
    (f_X9_isDigit w8 h).bind fun w9 =>
    if w9 = 0 then (some i3)
    else (f_X9_behindNumber_l25 n i0 i2 (i3 + (1 : Int32)) (i4 + (1 : Int32)) h))
def f_X9_behindNumber (i0 : Option Nat) (i1 : Int32) (i2 : Int32) (h : ab_HP) : Option Int32 :=
    (f_X9_behindDigit i0 i1 h).bind fun w1 =>
    if w1 < 0 then (some w1)
    else ((i0).bind fun q3 =>
    (f_X6_read q3 i1 h).bind fun w4 =>
    if w4 = 48 then (some w1)
    else (f_X9_behindNumber_l25 1000 i0 i2 w1 1 h))
def f_X9_behindDeed (i0 : Option Nat) (i1 : Int32) (h : ab_HP) : Option Int32 :=
    (f_X9_behindDigit i0 i1 h).bind fun w1 =>
    (f_X9_behindNeeds i0 w1 h).bind fun w2 =>
    (f_X9_behindSign i0 w2 32 h).bind fun w3 =>
    (f_X9_behindLetter i0 w3 h).bind fun w4 =>
    (f_X9_behindNumber i0 w4 2 h).bind fun w5 =>
    (f_X9_behindSign i0 w5 32 h).bind fun w6 =>
    (f_X9_behindDigit i0 w6 h).bind fun w7 =>
    some w7
def f_X9_behindNail_b35 (i0 : Option Nat) (i2 : Int32) (h : ab_HP) : Option Int32 :=
    (f_X9_behindSign i0 i2 43 h).bind fun w8 =>
    (f_X9_behindDigit i0 w8 h).bind fun w9 =>
    some w9
def f_X9_behindNail (i0 : Option Nat) (i1 : Int32) (h : ab_HP) : Option Int32 :=
    (f_X9_behindNumber i0 i1 2 h).bind fun w1 =>
    (f_X9_behindSign i0 w1 32 h).bind fun w2 =>
    if w2 < 0 then (f_X9_behindNail_b35 i0 w2 h)
    else ((i0).bind fun q4 =>
    (f_X6_read q4 w2 h).bind fun w5 =>
    if w5 = 45 then ((f_X9_behindDigit i0 (w2 + (1 : Int32)) h).bind fun w7 =>
    some w7)
    else (f_X9_behindNail_b35 i0 w2 h))
def f_X9_behindStatement_b129 (i0 : Option Nat) (i2 : Int32) (h : ab_HP) : Option Int32 :=
    (f_X9_behindSign i0 i2 59 h).bind fun w13 =>
    some w13
def f_X9_behindStatement_b124 (i1 : Int32) (h : ab_HP) : Option Int32 :=
    (f_X9_wrongAt i1 h).bind fun w14 =>
    some w14
def f_X9_behindStatement (i0 : Option Nat) (i1 : Int32) (h : ab_HP) : Option Int32 :=
    (i0).bind fun q1 =>
    (f_X6_read q1 i1 h).bind fun w2 =>
    if w2 = 99 then ((f_X9_behindNumber i0 (i1 + (1 : Int32)) 4 h).bind fun w4 =>
    f_X9_behindStatement_b129 i0 w4 h)
    else if w2 = 100 then ((f_X9_behindDeed i0 (i1 + (1 : Int32)) h).bind fun w6 =>
    f_X9_behindStatement_b129 i0 w6 h)
    else if w2 = 108 then ((f_X9_behindDigit i0 (i1 + (1 : Int32)) h).bind fun w8 =>
    f_X9_behindStatement_b129 i0 w8 h)
    else if w2 = 109 then ((f_X9_behindLetter i0 (i1 + (1 : Int32)) h).bind fun w10 =>
    f_X9_behindStatement_b129 i0 w10 h)
    else if w2 = 110 then ((f_X9_behindNail i0 (i1 + (1 : Int32)) h).bind fun w12 =>
    f_X9_behindStatement_b129 i0 w12 h)
    else (f_X9_behindStatement_b124 i1 h)
def f_X9_faultAt (i0 : Int32) (h : ab_HP) : Option Int32 :=
    some ((-1 : Int32) - i0)
def f_X9_number_l4  : Nat → Option Nat → Int32 → Int32 → ab_HP → Option Int32
  | 0, _, _, _, _ => none
  | n + 1, i0, i2, i3, h =>
    (i0).bind fun q1 =>
    if (ab_i h q1 3) ≤ i3 then (some i2)
    else ((f_X6_read q1 i3 h).bind fun w3 =>
    (f_X9_isDigit w3 h).bind fun w4 =>
    if w4 = 0 then (some i2)
    else ((f_X6_read q1 i3 h).bind fun w7 =>
    ab_let ((((10 : Int32) * i2) + w7) - (48 : Int32)) fun v8 =>
    f_X9_number_l4 n i0 v8 (i3 + (1 : Int32)) h))
def f_X9_number (i0 : Option Nat) (i1 : Int32) (h : ab_HP) : Option Int32 :=
    f_X9_number_l4 1000 i0 0 i1 h
def f_X1_init (t0 : Nat) (i1 : Int32) (i2 : Int32) (i3 : Int32) (i4 : Int32) (i5 : Int32) (h : ab_HP) : Option ab_HP :=
    ab_let (ab_ip h t0 5 0) fun h1 =>
    ab_let (ab_ip h1 t0 11 4) fun h2 =>
    ab_let (ab_ip h2 t0 0 i1) fun h3 =>
    ab_let (ab_ip h3 t0 1 i2) fun h4 =>
    ab_let (ab_ip h4 t0 2 i3) fun h5 =>
    ab_let (ab_ip h5 t0 3 i4) fun h6 =>
    ab_let (ab_ip h6 t0 4 i5) fun h7 =>
    ab_let (ab_ip h7 t0 6 i4) fun h8 =>
    ab_let (ab_ip h8 t0 7 i4) fun h9 =>
    ab_let (ab_ip h9 t0 8 ((1 : Int32) <<< (i3 &&& 31))) fun h10 =>
    ab_let (ab_ip h10 t0 12 i1) fun h11 =>
    if i5 = 0 then (ab_let (ab_ip h11 t0 13 0) fun h13 =>
    some h13)
    else (ab_let (ab_ip h11 t0 13 1) fun h14 =>
    some h14)
def f_X4_init (t0 : Nat) (i1 : Int32) (i2 : Int32) (i3 : Int32) (i4 : Int32) (i5 : Int32) (h : ab_HP) : Option ab_HP :=
    (f_X1_init t0 i1 i2 i3 i4 i5 h).bind fun w1 =>
    ab_let (ab_ip w1 t0 5 1) fun h2 =>
    ab_let (ab_ip h2 t0 6 ((ab_i h2 t0 6) + i5)) fun h3 =>
    ab_let (ab_ip h3 t0 7 ((ab_i h3 t0 6) / (2 : Int32))) fun h4 =>
    ab_let (ab_ip h4 t0 11 ((ab_i h4 t0 11) * (3 : Int32))) fun h5 =>
    some h5
def f_X7_init (t0 : Nat) (i1 : Int32) (i2 : Int32) (i3 : Int32) (i4 : Int32) (i5 : Int32) (h : ab_HP) : Option ab_HP :=
    (f_X1_init t0 i1 i2 i3 i4 i5 h).bind fun w1 =>
    ab_let (ab_ip w1 t0 5 2) fun h2 =>
    ab_let (ab_ip h2 t0 7 0) fun h3 =>
    ab_let (ab_ip h3 t0 11 ((ab_i h3 t0 11) + i4)) fun h4 =>
    some h4
def f_X2_init (t0 : Nat) (i1 : Int32) (i2 : Int32) (i3 : Int32) (i4 : Int32) (i5 : Int32) (h : ab_HP) : Option ab_HP :=
    (f_X7_init t0 i1 i2 i3 i4 i5 h).bind fun w1 =>
    ab_let (ab_ip w1 t0 5 3) fun h2 =>
    ab_let (ab_ip h2 t0 6 ((ab_i h2 t0 6) / (2 : Int32))) fun h3 =>
    ab_let (ab_ip h3 t0 7 i5) fun h4 =>
    ab_let (ab_ip h4 t0 11 ((ab_i h4 t0 11) - i5)) fun h5 =>
    ab_let (ab_ip h5 t0 13 0) fun h6 =>
    some h6
def f_X5_init (t0 : Nat) (i1 : Int32) (i2 : Int32) (i3 : Int32) (i4 : Int32) (i5 : Int32) (h : ab_HP) : Option ab_HP :=
    (f_X1_init t0 i1 i2 i3 i4 i5 h).bind fun w1 =>
    ab_let (ab_ip w1 t0 5 4) fun h2 =>
    ab_let (ab_ip h2 t0 6 0) fun h3 =>
    ab_let (ab_ip h3 t0 7 0) fun h4 =>
    if i5 < 5 then (ab_let (ab_ip h4 t0 10 0) fun h6 =>
    ab_let (ab_ip h6 t0 11 ((ab_i h6 t0 11) - (3 : Int32))) fun h7 =>
    some h7)
    else (ab_let (ab_ip h4 t0 10 1) fun h8 =>
    ab_let (ab_ip h8 t0 11 ((ab_i h8 t0 11) - (3 : Int32))) fun h9 =>
    some h9)
def f_X0_init (t0 : Nat) (i1 : Int32) (i2 : Int32) (i3 : Int32) (i4 : Int32) (i5 : Int32) (h : ab_HP) : Option ab_HP :=
    (f_X4_init t0 i1 i2 i3 i4 i5 h).bind fun w1 =>
    ab_let (ab_ip w1 t0 5 5) fun h2 =>
    ab_let (ab_ip h2 t0 6 ((ab_i h2 t0 6) + (5 : Int32))) fun h3 =>
    ab_let (ab_ip h3 t0 7 ((ab_i h3 t0 6) / (2 : Int32))) fun h4 =>
    if i5 = 9 then (ab_let (ab_ip h4 t0 10 1) fun h9 =>
    ab_let (ab_ip h9 t0 11 ((ab_i h9 t0 11) + (1 : Int32))) fun h10 =>
    ab_let (ab_ip h10 t0 12 ((ab_i h10 t0 12) + (100 : Int32))) fun h11 =>
    some h11)
    else (ab_let (ab_ip h4 t0 10 0) fun h6 =>
    ab_let (ab_ip h6 t0 11 ((ab_i h6 t0 11) + (1 : Int32))) fun h7 =>
    ab_let (ab_ip h7 t0 12 ((ab_i h7 t0 12) + (100 : Int32))) fun h8 =>
    some h8)
def f_X3_init (t0 : Nat) (i1 : Int32) (i2 : Int32) (i3 : Int32) (i4 : Int32) (i5 : Int32) (h : ab_HP) : Option ab_HP :=
    (f_X1_init t0 i1 i2 i3 i4 i5 h).bind fun w1 =>
    ab_let (ab_ip w1 t0 5 6) fun h2 =>
    ab_let (ab_ip h2 t0 9 (ab_i h2 t0 8)) fun h3 =>
    ab_let (ab_ip h3 t0 8 0) fun h4 =>
    ab_let (ab_ip h4 t0 11 ((ab_i h4 t0 11) * (2 : Int32))) fun h5 =>
    some h5
def f_X8_init (t0 : Nat) (i1 : Int32) (i2 : Int32) (i3 : Int32) (i4 : Int32) (i5 : Int32) (h : ab_HP) : Option ab_HP :=
    (f_X5_init t0 i1 i2 i3 i4 i5 h).bind fun w1 =>
    ab_let (ab_ip w1 t0 5 7) fun h2 =>
    ab_let (ab_ip h2 t0 8 ((ab_i h2 t0 8) ||| ((1 : Int32) <<< (i5 &&& 31)))) fun h3 =>
    ab_let (ab_ip h3 t0 11 ((ab_i h3 t0 11) * i5)) fun h4 =>
    ab_let (ab_ip h4 t0 12 ((200 : Int32) + (ab_i h4 t0 11))) fun h5 =>
    some h5
def f_X9_newDeed_l16 (t0 : Nat) : Nat → Option Nat → Int32 → Int32 → Int32 → Int32 → ab_HP → Option ((Option Nat) × ab_HP)
  | 0, _, _, _, _, _, _ => none
  | n + 1, i1, i2, i3, i4, i5, h =>
    if i3 ≤ i5 then ((i1).bind fun q3 =>
    (f_X6_read q3 (i3 + (1 : Int32)) h).bind fun w4 =>
    (f_X9_number i1 (i3 + (2 : Int32)) h).bind fun w5 =>
    (f_X9_behindNumber i1 (i3 + (2 : Int32)) 2 h).bind fun w6 =>
    (f_X9_number i1 (w6 + (1 : Int32)) h).bind fun w7 =>
    (f_X9_number i1 i2 h).bind fun w8 =>
    if w8 = 0 then (if (ab_shp h.1).1 = 4 then
    (ab_let (ab_nw h) fun h11 =>
    (f_X1_init h.1 (ab_i h11 t0 1) i4 (w4 - (97 : Int32)) w5 w7 h11).bind fun w12 =>
    some ((some h.1), w12)) else none)
    else if w8 = 1 then (if (ab_shp h.1).1 = 4 then
    (ab_let (ab_nw h) fun h15 =>
    (f_X4_init h.1 (ab_i h15 t0 1) i4 (w4 - (97 : Int32)) w5 w7 h15).bind fun w16 =>
    some ((some h.1), w16)) else none)
    else if w8 = 2 then (if (ab_shp h.1).1 = 4 then
    (ab_let (ab_nw h) fun h19 =>
    (f_X7_init h.1 (ab_i h19 t0 1) i4 (w4 - (97 : Int32)) w5 w7 h19).bind fun w20 =>
    some ((some h.1), w20)) else none)
    else if w8 = 3 then (if (ab_shp h.1).1 = 4 then
    (ab_let (ab_nw h) fun h23 =>
    (f_X2_init h.1 (ab_i h23 t0 1) i4 (w4 - (97 : Int32)) w5 w7 h23).bind fun w24 =>
    some ((some h.1), w24)) else none)
    else if w8 = 4 then (if (ab_shp h.1).1 = 4 then
    (ab_let (ab_nw h) fun h27 =>
    (f_X5_init h.1 (ab_i h27 t0 1) i4 (w4 - (97 : Int32)) w5 w7 h27).bind fun w28 =>
    some ((some h.1), w28)) else none)
    else if w8 = 5 then (if (ab_shp h.1).1 = 4 then
    (ab_let (ab_nw h) fun h31 =>
    (f_X0_init h.1 (ab_i h31 t0 1) i4 (w4 - (97 : Int32)) w5 w7 h31).bind fun w32 =>
    some ((some h.1), w32)) else none)
    else if w8 = 6 then (if (ab_shp h.1).1 = 4 then
    (ab_let (ab_nw h) fun h35 =>
    (f_X3_init h.1 (ab_i h35 t0 1) i4 (w4 - (97 : Int32)) w5 w7 h35).bind fun w36 =>
    some ((some h.1), w36)) else none)
    else if w8 = 7 then (if (ab_shp h.1).1 = 4 then
    (ab_let (ab_nw h) fun h39 =>
    (f_X8_init h.1 (ab_i h39 t0 1) i4 (w4 - (97 : Int32)) w5 w7 h39).bind fun w40 =>
    some ((some h.1), w40)) else none)
    else (some (none, h)))
    else ((i1).bind fun q41 =>
    (f_X6_read q41 i5 h).bind fun w42 =>
    ab_let (i4 ||| ((1 : Int32) <<< ((w42 - (97 : Int32)) &&& 31))) fun v43 =>
    f_X9_newDeed_l16 t0 n i1 i2 i3 v43 (i5 + (1 : Int32)) h)
def f_X9_newDeed (t0 : Nat) (i1 : Option Nat) (i2 : Int32) (h : ab_HP) : Option ((Option Nat) × ab_HP) :=
    (f_X9_behindNeeds i1 (i2 + (1 : Int32)) h).bind fun w1 =>
    f_X9_newDeed_l16 t0 1000 i1 i2 w1 0 (i2 + (1 : Int32)) h
def f_X9_takeDeed (t0 : Nat) (i1 : Option Nat) (h : ab_HP) : Option (Int32 × ab_HP) :=
    (i1).elim (some (0, h))
    (fun q1 => ((ab_r h t0 0)).bind fun q3 =>
    if (ab_i h t0 1) < (Int32.ofNat (ab_shp q3).2) then (((ab_r h t0 0)).bind fun q6 =>
    if ab_in (ab_i h t0 1) (ab_shp q6).2 = true then
    (ab_let (ab_rp h q6 (ab_i h t0 1).toNatClampNeg i1) fun h8 =>
    ab_let (ab_ip h8 t0 1 ((ab_i h8 t0 1) + (1 : Int32))) fun h9 =>
    some (1, h9)) else none)
    else (some (0, h)))
def f_X9_takeMark (t0 : Nat) (i1 : Int32) (h : ab_HP) : Option (Int32 × ab_HP) :=
    if (((ab_i h t0 2) >>> (i1 &&& 31)) &&& (1 : Int32)) = 0 then (ab_let (ab_ip h t0 2 ((ab_i h t0 2) ||| ((1 : Int32) <<< (i1 &&& 31)))) fun h2 =>
    some (1, h2))
    else (some (0, h))
def f_X9_changeCoins (t0 : Nat) (i1 : Int32) (h : ab_HP) : Option (Int32 × ab_HP) :=
    if i1 < 0 then (some ((-1), h))
    else (if i1 ≤ 9999 then (ab_let (ab_ip h t0 3 i1) fun h3 =>
    some ((ab_i h t0 3), h3))
    else (some ((-1), h)))
def f_X9_changeNail (t0 : Nat) (i1 : Int32) (h : ab_HP) : Option (Int32 × ab_HP) :=
    if i1 < 0 then (some ((-1), h))
    else (if i1 ≤ 99 then (ab_let (ab_ip h t0 5 i1) fun h3 =>
    some ((ab_i h t0 5), h3))
    else (some ((-1), h)))
def f_X9_takeNail (t0 : Nat) (i1 : Option Nat) (i2 : Int32) (h : ab_HP) : Option (Int32 × ab_HP) :=
    (f_X9_behindNumber i1 i2 2 h).bind fun w1 =>
    (f_X9_number i1 ((w1 + (1 : Int32)) + (1 : Int32)) h).bind fun w2 =>
    (i1).bind fun q3 =>
    (f_X6_read q3 (w1 + (1 : Int32)) h).bind fun w4 =>
    if w4 = 45 then (ab_let (ab_ip h t0 6 (-w2)) fun h10 =>
    (f_X9_number i1 i2 h10).bind fun w11 =>
    (f_X9_changeNail t0 w11 h10).bind fun w12 =>
    if w12.1 < 0 then (some (0, w12.2))
    else (some (1, w12.2)))
    else (ab_let (ab_ip h t0 6 w2) fun h6 =>
    (f_X9_number i1 i2 h6).bind fun w7 =>
    (f_X9_changeNail t0 w7 h6).bind fun w8 =>
    if w8.1 < 0 then (some (0, w8.2))
    else (some (1, w8.2)))
def f_X9_changeLaw (t0 : Nat) (i1 : Int32) (h : ab_HP) : Option (Int32 × ab_HP) :=
    if i1 < 0 then (some ((-1), h))
    else (if i1 < 3 then (ab_let (ab_ip h t0 4 i1) fun h3 =>
    some ((ab_i h t0 4), h3))
    else (some ((-1), h)))
def f_X9_take (t0 : Nat) (i1 : Option Nat) (i2 : Int32) (h : ab_HP) : Option (Int32 × ab_HP) :=
    (i1).bind fun q1 =>
    (f_X6_read q1 i2 h).bind fun w2 =>
    if w2 = 99 then ((f_X9_number i1 (i2 + (1 : Int32)) h).bind fun w4 =>
    (f_X9_changeCoins t0 w4 h).bind fun w5 =>
    if w5.1 < 0 then (some (0, w5.2))
    else (some (1, w5.2)))
    else if w2 = 100 then ((f_X9_newDeed t0 i1 (i2 + (1 : Int32)) h).bind fun w8 =>
    (f_X9_takeDeed t0 w8.1 w8.2).bind fun w10 =>
    some (w10.1, w10.2))
    else if w2 = 109 then ((f_X6_read q1 (i2 + (1 : Int32)) h).bind fun w13 =>
    (f_X9_takeMark t0 (w13 - (97 : Int32)) h).bind fun w14 =>
    some (w14.1, w14.2))
    else if w2 = 110 then ((f_X9_takeNail t0 i1 (i2 + (1 : Int32)) h).bind fun w17 =>
    some (w17.1, w17.2))
    else ((f_X9_number i1 (i2 + (1 : Int32)) h).bind fun w19 =>
    (f_X9_changeLaw t0 w19 h).bind fun w20 =>
    if w20.1 < 0 then (some (0, w20.2))
    else (some (1, w20.2)))
def f_X9_read_b24 (k4 : Option Nat → Int32 → Int32 → ab_HP → Option (Int32 × ab_HP)) (t0 : Nat) (i1 : Option Nat) (i2 : Int32) (i3 : Int32) (h : ab_HP) : Option (Int32 × ab_HP) :=
    (f_X9_behindStatement i1 i3 h).bind fun w5 =>
    if (0 : Int32) ≤ w5 then (k4 i1 (i2 + (1 : Int32)) w5 h)
    else ((f_X9_faultAt w5 h).bind fun w7 =>
    some (((-1000 : Int32) - w7), h))
def f_X9_read_l54 (t0 : Nat) : Nat → Option Nat → Int32 → Int32 → Int32 → ab_HP → Option (Int32 × ab_HP)
  | 0, _, _, _, _, _ => none
  | n + 1, i1, i2, i3, i4, h =>
    if i2 ≤ i4 then (some (i2, h))
    else ((f_X9_take t0 i1 i3 h).bind fun w9 =>
    if w9.1 = 0 then (some (((-2000 : Int32) - i3), w9.2))
    else ((f_X9_behindStatement i1 i3 w9.2).bind fun w12 =>
    f_X9_read_l54 t0 n i1 i2 w12 (i4 + (1 : Int32)) w9.2))
def f_X9_read_b49 (t0 : Nat) (i1 : Option Nat) (i2 : Int32) (h : ab_HP) : Option (Int32 × ab_HP) :=
    f_X9_read_l54 t0 101 i1 i2 0 0 h
def f_X9_read_l4 (t0 : Nat) : Nat → Option Nat → Int32 → Int32 → ab_HP → Option (Int32 × ab_HP)
  | 0, _, _, _, _ => none
  | n + 1, i1, i2, i3, h =>
    if i2 = 0 then (f_X9_read_b24 (f_X9_read_l4 t0 n) t0 i1 i2 i3 h)
    else ((i1).bind fun q2 =>
    if (ab_i h q2 3) ≤ i2 then (f_X9_read_b49 t0 i1 i2 h)
    else (if (ab_i h q2 3) ≤ i3 then (f_X9_read_b49 t0 i1 i2 h)
    else (f_X9_read_b24 (f_X9_read_l4 t0 n) t0 i1 i2 i3 h)))
def f_X9_read (t0 : Nat) (i1 : Option Nat) (h : ab_HP) : Option (Int32 × ab_HP) :=
    f_X9_read_l4 t0 1000 i1 0 0 h
def f_X1_hasGround (t0 : Nat) (i1 : Int32) (h : ab_HP) : Option Int32 :=
    if ((ab_i h t0 1) &&& (i1 ^^^ (-1 : Int32))) = 0 then (some 1)
    else (some 0)
def f_X1_mayBeDone (t0 : Nat) (i1 : Int32) (i2 : Int32) (h : ab_HP) : Option Int32 :=
    (f_X1_hasGround t0 i1 h).bind fun w1 =>
    if w1 = 0 then (some 0)
    else (if i2 < (ab_i h t0 6) then (some 0)
    else (some 1))
def f_X10_open (t0 : Nat) (i1 : Option Nat) (h : ab_HP) : Option ab_HP :=
    ab_let (ab_rp h t0 3 i1) fun h1 =>
    (i1).bind fun q2 =>
    ab_let (ab_ip h1 t0 4 (ab_i h1 q2 4)) fun h3 =>
    ab_let (ab_ip h3 t0 5 0) fun h4 =>
    some h4
def f_X10_add (t0 : Nat) (i1 : Option Nat) (h : ab_HP) : Option ab_HP :=
    (i1).elim (some h)
    (fun q1 => ((ab_r h t0 0)).bind fun q3 =>
    if (Int32.ofNat (ab_shp q3).2) ≤ (ab_i h t0 5) then (some h)
    else (((ab_r h t0 0)).bind fun q6 =>
    if ab_in (ab_i h t0 5) (ab_shp q6).2 = true then
    (ab_let (ab_rp h q6 (ab_i h t0 5).toNatClampNeg i1) fun h8 =>
    ab_let (ab_ip h8 t0 5 ((ab_i h8 t0 5) + (1 : Int32))) fun h9 =>
    some h9) else none))
def f_X10_begin (t0 : Nat) (i1 : Int32) (i2 : Int32) (h : ab_HP) : Option ab_HP :=
    ab_let (ab_ip h t0 6 i1) fun h1 =>
    ab_let (ab_ip h1 t0 7 i2) fun h2 =>
    ab_let (ab_ip h2 t0 8 0) fun h3 =>
    ab_let (ab_ip h3 t0 9 0) fun h4 =>
    ab_let (ab_ip h4 t0 10 0) fun h5 =>
    ab_let (ab_ip h5 t0 11 0) fun h6 =>
    ab_let (ab_ip h6 t0 12 0) fun h7 =>
    ab_let (ab_ip h7 t0 13 0) fun h8 =>
    some h8
def f_X10_deedAt (t0 : Nat) (i1 : Int32) (h : ab_HP) : Option (Option Nat) :=
    if i1 < 0 then (some none)
    else (if (ab_i h t0 5) ≤ i1 then (some none)
    else (((ab_r h t0 0)).bind fun q4 =>
    if (Int32.ofNat (ab_shp q4).2) ≤ i1 then (some none)
    else (((ab_r h t0 0)).bind fun q7 =>
    if ab_in i1 (ab_shp q7).2 = true then
    (some (ab_r h q7 i1.toNatClampNeg)) else none)))
def f_X1_marksBehind (t0 : Nat) (i1 : Int32) (h : ab_HP) : Option Int32 :=
    some ((i1 ||| (ab_i h t0 8)) &&& ((ab_i h t0 9) ^^^ (-1 : Int32)))
def f_X11_store (i0 : Option Nat) (i1 : Int32) (i2 : Int32) (h : ab_HP) : Option ab_HP :=
    if i1 < 0 then (some h)
    else ((i0).bind fun q2 =>
    if (Int32.ofNat (ab_shp q2).2) ≤ i1 then (some h)
    else (if ab_in i1 (ab_shp q2).2 = true then
    (ab_let (ab_ip h q2 i1.toNatClampNeg i2) fun h5 =>
    some h5) else none))
def f_X10_has (i0 : Int32) (i1 : Int32) (h : ab_HP) : Option Int32 :=
    if ((i0 >>> (i1 &&& 31)) &&& (1 : Int32)) = 0 then (some 0)
    else (some 1)
def f_X9_nailCost (t0 : Nat) (i1 : Int32) (h : ab_HP) : Option Int32 :=
    if (0 : Int32) ≤ ((ab_i h t0 5) + (i1 * (ab_i h t0 6))) then (some ((ab_i h t0 5) + (i1 * (ab_i h t0 6))))
    else (some 0)
def f_X10_nailAt (t0 : Nat) (i1 : Int32) (h : ab_HP) : Option ab_HP :=
    ((ab_r h t0 3)).elim (if (ab_i h t0 7) < 0 then (some h)
    else (ab_let (ab_ip h t0 7 ((ab_i h t0 7) - (0 : Int32))) fun h4 =>
    ab_let (ab_ip h4 t0 8 ((ab_i h4 t0 8) + (0 : Int32))) fun h5 =>
    ab_let (ab_ip h5 t0 11 ((ab_i h5 t0 11) ||| ((1 : Int32) <<< (i1 &&& 31)))) fun h6 =>
    ab_let (ab_ip h6 t0 12 ((ab_i h6 t0 12) ||| ((1 : Int32) <<< (i1 &&& 31)))) fun h7 =>
    some h7))
    (fun q2 => ((ab_r h t0 3)).bind fun q9 =>
    (f_X9_nailCost q9 i1 h).bind fun w10 =>
    if (ab_i h t0 7) < w10 then (some h)
    else (ab_let (ab_ip h t0 7 ((ab_i h t0 7) - w10)) fun h12 =>
    ab_let (ab_ip h12 t0 8 ((ab_i h12 t0 8) + w10)) fun h13 =>
    ab_let (ab_ip h13 t0 11 ((ab_i h13 t0 11) ||| ((1 : Int32) <<< (i1 &&& 31)))) fun h14 =>
    ab_let (ab_ip h14 t0 12 ((ab_i h14 t0 12) ||| ((1 : Int32) <<< (i1 &&& 31)))) fun h15 =>
    some h15))
def f_X10_evenPlace_b120 (t0 : Nat) (i1 : Int32) (i2 : Int32) (h : ab_HP) : Option ab_HP :=
    (f_X10_has i2 i1 h).bind fun w17 =>
    if w17 = 0 then (some h)
    else ((f_X10_nailAt t0 i1 h).bind fun w20 =>
    some w20)
def f_X10_evenPlace (t0 : Nat) (i1 : Int32) (i2 : Int32) (h : ab_HP) : Option ab_HP :=
    (f_X10_deedAt t0 i1 h).bind fun w1 =>
    (w1).elim (some h)
    (fun q3 => (f_X1_mayBeDone q3 (ab_i h t0 6) (ab_i h t0 7) h).bind fun w4 =>
    if w4 = 0 then (some h)
    else ((f_X1_marksBehind q3 (ab_i h t0 6) h).bind fun w7 =>
    (f_X11_store (ab_r h t0 1) i1 (w7 &&& ((ab_i h t0 6) ^^^ (-1 : Int32))) h).bind fun w9 =>
    (f_X11_store (ab_r w9 t0 2) i1 ((ab_i w9 t0 6) &&& (w7 ^^^ (-1 : Int32))) w9).bind fun w11 =>
    ab_let (ab_ip w11 t0 6 w7) fun h12 =>
    ab_let (ab_ip h12 t0 7 ((ab_i h12 t0 7) - (ab_i h12 q3 6))) fun h13 =>
    ab_let (ab_ip h13 t0 9 ((ab_i h13 t0 9) ||| ((1 : Int32) <<< (i1 &&& 31)))) fun h14 =>
    if (ab_i h14 q3 10) = 0 then (f_X10_evenPlace_b120 t0 i1 i2 h14)
    else (ab_let (ab_ip h14 t0 12 ((ab_i h14 t0 12) ||| ((1 : Int32) <<< (i1 &&& 31)))) fun h16 =>
    f_X10_evenPlace_b120 t0 i1 i2 h16)))
def f_X10_evenYear_l2 (t0 : Nat) : Nat → Int32 → Int32 → ab_HP → Option ab_HP
  | 0, _, _, _ => none
  | n + 1, i1, i2, h =>
    if (ab_i h t0 5) ≤ i2 then (some h)
    else ((f_X10_evenPlace t0 i2 i1 h).bind fun w2 =>
    f_X10_evenYear_l2 t0 n i1 (i2 + (1 : Int32)) w2)
def f_X10_evenYear (t0 : Nat) (i1 : Int32) (h : ab_HP) : Option ab_HP :=
    f_X10_evenYear_l2 t0 1000 i1 0 h
def f_X10_stays_l32 (t0 : Nat) : Nat → Int32 → Int32 → ab_HP → Option Int32
  | 0, _, _, _ => none
  | n + 1, i2, i3, h =>
    if (ab_i h t0 5) ≤ i3 then (some 0)
    else ((f_X10_deedAt t0 i3 h).bind fun w7 =>
    (w7).elim (f_X10_stays_l32 t0 n i2 (i3 + (1 : Int32)) h)
    (fun q9 => (f_X10_has (ab_i h t0 12) i3 h).bind fun w10 =>
    if w10 = 0 then (f_X10_stays_l32 t0 n i2 (i3 + (1 : Int32)) h)
    else (if ((ab_i h q9 1) &&& i2) = 0 then (f_X10_stays_l32 t0 n i2 (i3 + (1 : Int32)) h)
    else (some 1))))
def f_X10_stays (t0 : Nat) (i1 : Int32) (h : ab_HP) : Option Int32 :=
    if (ab_i h t0 4) = 1 then ((f_X11_at (ab_r h t0 1) i1 h).bind fun w3 =>
    (f_X11_at (ab_r h t0 2) i1 h).bind fun w5 =>
    f_X10_stays_l32 t0 1000 (w3 ||| w5) (i1 + (1 : Int32)) h)
    else (some 0)
def f_X10_undo (t0 : Nat) (i1 : Int32) (h : ab_HP) : Option ab_HP :=
    (f_X10_deedAt t0 i1 h).bind fun w1 =>
    (w1).elim (some h)
    (fun q3 => (f_X11_at (ab_r h t0 1) i1 h).bind fun w5 =>
    (f_X11_at (ab_r h t0 2) i1 h).bind fun w7 =>
    ab_let (ab_ip h t0 6 (((ab_i h t0 6) &&& (w5 ^^^ (-1 : Int32))) ||| w7)) fun h8 =>
    ab_let (ab_ip h8 t0 7 (if ((ab_i h8 t0 7) + (ab_i h8 q3 7)) < 9999 then ((ab_i h8 t0 7) + (ab_i h8 q3 7)) else 9999)) fun h9 =>
    ab_let (ab_ip h9 t0 10 ((ab_i h9 t0 10) ||| ((1 : Int32) <<< (i1 &&& 31)))) fun h10 =>
    some h10)
def f_X10_letFall_l25 (k4 : Int32 → Int32 → ab_HP → Option ab_HP) (t0 : Nat) : Nat → Int32 → Int32 → Int32 → ab_HP → Option ab_HP
  | 0, _, _, _, _ => none
  | n + 1, i1, i2, i3, h =>
    if i3 < 0 then (k4 i1 (i2 + (1 : Int32)) h)
    else ((f_X10_deedAt t0 i3 h).bind fun w4 =>
    (w4).elim (f_X10_letFall_l25 k4 t0 n i1 i2 (i3 + (-1 : Int32)) h)
    (fun q6 => (f_X10_has ((ab_i h t0 12) &&& ((ab_i h t0 10) ^^^ (-1 : Int32))) i3 h).bind fun w7 =>
    if w7 = 0 then (f_X10_letFall_l25 k4 t0 n i1 i2 (i3 + (-1 : Int32)) h)
    else ((f_X1_hasGround q6 (ab_i h t0 6) h).bind fun w10 =>
    if w10 = 0 then ((f_X10_undo t0 i3 h).bind fun w13 =>
    ab_let (ab_ip w13 t0 13 ((ab_i w13 t0 13) ||| ((1 : Int32) <<< (i3 &&& 31)))) fun h14 =>
    f_X10_letFall_l25 k4 t0 n 1 i2 (i3 + (-1 : Int32)) h14)
    else (f_X10_letFall_l25 k4 t0 n i1 i2 (i3 + (-1 : Int32)) h))))
def f_X10_letFall_l4 (t0 : Nat) : Nat → Int32 → Int32 → ab_HP → Option ab_HP
  | 0, _, _, _ => none
  | n + 1, i1, i2, h =>
    if (ab_i h t0 5) < i2 then (some h)
    else (if i1 = 0 then (some h)
    else (f_X10_letFall_l25 (f_X10_letFall_l4 t0 n) t0 1000 0 i2 ((ab_i h t0 5) - (1 : Int32)) h))
def f_X10_letFall (t0 : Nat) (h : ab_HP) : Option ab_HP :=
    f_X10_letFall_l4 t0 1000 1 0 h
def f_X10_oddYear_l7 (t0 : Nat) : Nat → Int32 → ab_HP → Option ab_HP
  | 0, _, _ => none
  | n + 1, i1, h =>
    if i1 < 0 then (some h)
    else ((f_X10_has ((ab_i h t0 9) &&& ((ab_i h t0 12) ^^^ (-1 : Int32))) i1 h).bind fun w2 =>
    if w2 = 0 then (f_X10_oddYear_l7 t0 n (i1 + (-1 : Int32)) h)
    else ((f_X10_stays t0 i1 h).bind fun w5 =>
    if w5 = 0 then ((f_X10_undo t0 i1 h).bind fun w8 =>
    if (ab_i w8 t0 4) = 0 then ((f_X10_letFall t0 w8).bind fun w10 =>
    f_X10_oddYear_l7 t0 n (i1 + (-1 : Int32)) w10)
    else (f_X10_oddYear_l7 t0 n (i1 + (-1 : Int32)) w8))
    else (f_X10_oddYear_l7 t0 n (i1 + (-1 : Int32)) h)))
def f_X10_oddYear (t0 : Nat) (h : ab_HP) : Option ab_HP :=
    f_X10_oddYear_l7 t0 1000 ((ab_i h t0 5) - (1 : Int32)) h
def f_X10_play_b25 (t0 : Nat) (i1 : Int32) (h : ab_HP) : Option ab_HP :=
    (f_X10_evenYear t0 i1 h).bind fun w8 =>
    (f_X10_oddYear t0 w8).bind fun w9 =>
    some w9
def f_X10_play (t0 : Nat) (i1 : Int32) (h : ab_HP) : Option ab_HP :=
    ((ab_r h t0 3)).elim (f_X10_play_b25 t0 i1 h)
    (fun q2 => ((ab_r h t0 3)).bind fun q4 =>
    ((ab_r h t0 3)).bind fun q6 =>
    (f_X10_begin t0 (ab_i h q4 2) (ab_i h q6 3) h).bind fun w7 =>
    f_X10_play_b25 t0 i1 w7)
def f_X10_standing (t0 : Nat) (h : ab_HP) : Option Int32 :=
    some ((ab_i h t0 9) &&& ((ab_i h t0 10) ^^^ (-1 : Int32)))
def f_X10_fate (t0 : Nat) (i1 : Int32) (h : ab_HP) : Option Int32 :=
    (f_X10_has (ab_i h t0 9) i1 h).bind fun w1 =>
    if w1 = 0 then (some 0)
    else ((f_X10_has (ab_i h t0 10) i1 h).bind fun w4 =>
    if w4 = 0 then ((f_X10_has (ab_i h t0 11) i1 h).bind fun w7 =>
    if w7 = 0 then ((f_X10_has (ab_i h t0 12) i1 h).bind fun w10 =>
    if w10 = 0 then (some 4)
    else (some 3))
    else (some 2))
    else ((f_X10_has (ab_i h t0 13) i1 h).bind fun w13 =>
    if w13 = 0 then (some 1)
    else (some 5)))
def f_X10_leastNails_b77 (k8 : Int32 → Int32 → Int32 → Int32 → ab_HP → Option (Int32 × ab_HP)) (t0 : Nat) (i1 : Int32) (i4 : Int32) (h : ab_HP) : Option (Int32 × ab_HP) :=
    k8 i1 i4 (ab_i h t0 8) (i4 + (1 : Int32)) h
def f_X10_leastNails_l8 (t0 : Nat) : Nat → Int32 → Int32 → Int32 → Int32 → ab_HP → Option (Int32 × ab_HP)
  | 0, _, _, _, _, _ => none
  | n + 1, i1, i2, i3, i4, h =>
    if ((1 : Int32) <<< ((ab_i h t0 5) &&& 31)) ≤ i4 then (some (i2, h))
    else (if (0 : Int32) ≤ i2 then ((f_J6_bitCount_0f7a4 i2 h).bind fun w3 =>
    (f_J6_bitCount_0f7a4 i4 h).bind fun w4 =>
    if (0 : Int32) ≤ (w3 - w4) then ((f_X10_play t0 i4 h).bind fun w6 =>
    if (i1 &&& ((ab_i w6 t0 6) ^^^ (-1 : Int32))) = 0 then (if (0 : Int32) < (w3 - w4) then (f_X10_leastNails_b77 (f_X10_leastNails_l8 t0 n) t0 i1 i4 w6)
    else (if i3 ≤ (ab_i w6 t0 8) then (f_X10_leastNails_l8 t0 n i1 i2 i3 (i4 + (1 : Int32)) w6)
    else (f_X10_leastNails_b77 (f_X10_leastNails_l8 t0 n) t0 i1 i4 w6)))
    else (f_X10_leastNails_l8 t0 n i1 i2 i3 (i4 + (1 : Int32)) w6))
    else (f_X10_leastNails_l8 t0 n i1 i2 i3 (i4 + (1 : Int32)) h))
    else (if (0 : Int32) ≤ (1 : Int32) then ((f_X10_play t0 i4 h).bind fun w11 =>
    if (i1 &&& ((ab_i w11 t0 6) ^^^ (-1 : Int32))) = 0 then (if (0 : Int32) < (1 : Int32) then (f_X10_leastNails_b77 (f_X10_leastNails_l8 t0 n) t0 i1 i4 w11)
    else (if i3 ≤ (ab_i w11 t0 8) then (f_X10_leastNails_l8 t0 n i1 i2 i3 (i4 + (1 : Int32)) w11)
    else (f_X10_leastNails_b77 (f_X10_leastNails_l8 t0 n) t0 i1 i4 w11)))
    else (f_X10_leastNails_l8 t0 n i1 i2 i3 (i4 + (1 : Int32)) w11))
    else (f_X10_leastNails_l8 t0 n i1 i2 i3 (i4 + (1 : Int32)) h)))
def f_X10_leastNails (t0 : Nat) (i1 : Int32) (h : ab_HP) : Option (Int32 × ab_HP) :=
    f_X10_leastNails_l8 t0 1000 i1 (-4) 0 0 h
def f_X6_rowRefusal (t0 : Nat) (h : ab_HP) : Option Int32 :=
    (f_X6_isEmpty t0 h).bind fun w1 =>
    if w1 = 0 then (if (ab_i h t0 2) = (-1) then (some (-12))
    else (some 0))
    else (some (-11))
def f_X6_leastNumber (t0 : Nat) (h : ab_HP) : Option Int32 :=
    if (ab_i h t0 2) = 0 then (some (-128))
    else (if (ab_i h t0 2) = 1 then (some (-32768))
    else (some (-2147483648)))
def f_X6_hold (t0 : Nat) (i1 : Option Nat) (h : ab_HP) : Option ab_HP :=
    ab_let (ab_rp h t0 1 i1) fun h1 =>
    ab_let (ab_ip h1 t0 2 (-1)) fun h2 =>
    ab_let (ab_ip h2 t0 3 0) fun h3 =>
    some h3
def f_X6_holdRow_l17 (t0 : Nat) : Nat → Int32 → ab_HP → Option ab_HP
  | 0, _, _ => none
  | n + 1, i3, h =>
    ((ab_r h t0 0)).bind fun q5 =>
    if (Int32.ofNat (ab_shp q5).2) ≤ i3 then (some h)
    else (((ab_r h t0 0)).bind fun q8 =>
    if ab_in i3 (ab_shp q8).2 = true then
    (ab_let (ab_ip h q8 i3.toNatClampNeg 0) fun h10 =>
    f_X6_holdRow_l17 t0 n (i3 + (1 : Int32)) h10) else none)
def f_X6_holdRow (t0 : Nat) (i1 : Int32) (i2 : Int32) (h : ab_HP) : Option ab_HP :=
    ab_let (ab_rp h t0 1 none) fun h1 =>
    ab_let (ab_ip h1 t0 2 i1) fun h2 =>
    ab_let (ab_ip h2 t0 3 i2) fun h3 =>
    f_X6_holdRow_l17 t0 1000 0 h3
def f_X6_write (t0 : Nat) (i1 : Int32) (i2 : Int32) (h : ab_HP) : Option (Int32 × ab_HP) :=
    (f_X6_hasPlace t0 i1 h).bind fun w1 =>
    if w1 = 0 then (some (0, h))
    else (if (ab_i h t0 2) = 0 then ((f_X11_store (ab_r h t0 0) i1 (i2.toInt8.toInt32) h).bind fun w9 =>
    some (1, w9))
    else (if (ab_i h t0 2) = 1 then ((f_X11_store (ab_r h t0 0) i1 (i2.toInt16.toInt32) h).bind fun w8 =>
    some (1, w8))
    else ((f_X11_store (ab_r h t0 0) i1 i2 h).bind fun w7 =>
    some (1, w7))))
def f_X6_hasPlaces (t0 : Nat) (i1 : Int32) (i2 : Int32) (h : ab_HP) : Option Int32 :=
    if i1 < 0 then (some 0)
    else (if i2 < 0 then (some 0)
    else (if (ab_i h t0 3) < i1 then (some 0)
    else (if ((ab_i h t0 3) - i1) < i2 then (some 0)
    else (some 1))))
def f_X6_deedRefusal (t0 : Nat) (h : ab_HP) : Option Int32 :=
    (f_X6_isEmpty t0 h).bind fun w1 =>
    if w1 = 0 then (((ab_r h t0 1)).elim (some (-12))
    (fun q5 => some 0))
    else (some (-11))
