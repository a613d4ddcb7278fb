def f_X12_init (t0 : Nat) (h : ab_HP) : Option ab_HP :=
    if ab_shp h.1 = (6, 47) then
    (ab_let (ab_nw h) fun h2 =>
    ab_let (ab_rp h2 t0 0 (some h.1)) fun h3 =>
    if ab_shp h3.1 = (6, 47) then
    (ab_let (ab_nw h3) fun h5 =>
    ab_let (ab_rp h5 t0 1 (some h3.1)) fun h6 =>
    if ab_shp h6.1 = (6, 47) then
    (ab_let (ab_nw h6) fun h8 =>
    ab_let (ab_rp h8 t0 2 (some h6.1)) fun h9 =>
    if ab_shp h9.1 = (6, 8) then
    (ab_let (ab_nw h9) fun h11 =>
    ab_let (ab_rp h11 t0 3 (some h9.1)) fun h12 =>
    if ab_shp h12.1 = (6, 8) then
    (ab_let (ab_nw h12) fun h14 =>
    ab_let (ab_rp h14 t0 4 (some h12.1)) fun h15 =>
    if ab_shp h15.1 = (6, 8) then
    (ab_let (ab_nw h15) fun h17 =>
    ab_let (ab_rp h17 t0 5 (some h15.1)) fun h18 =>
    if ab_shp h18.1 = (6, 800) then
    (ab_let (ab_nw h18) fun h20 =>
    ab_let (ab_rp h20 t0 6 (some h18.1)) fun h21 =>
    if ab_shp h21.1 = (6, 8) then
    (ab_let (ab_nw h21) fun h23 =>
    ab_let (ab_rp h23 t0 7 (some h21.1)) fun h24 =>
    if ab_shp h24.1 = (6, 8) then
    (ab_let (ab_nw h24) fun h26 =>
    ab_let (ab_rp h26 t0 8 (some h24.1)) fun h27 =>
    if ab_shp h27.1 = (6, 3) then
    (ab_let (ab_nw h27) fun h29 =>
    ab_let (ab_rp h29 t0 16 (some h27.1)) fun h30 =>
    if ab_shp h30.1 = (6, 16) then
    (ab_let (ab_nw h30) fun h32 =>
    ab_let (ab_rp h32 t0 19 (some h30.1)) fun h33 =>
    if ab_shp h33.1 = (6, 16) then
    (ab_let (ab_nw h33) fun h35 =>
    ab_let (ab_rp h35 t0 20 (some h33.1)) fun h36 =>
    if ab_shp h36.1 = (6, 16) then
    (ab_let (ab_nw h36) fun h38 =>
    ab_let (ab_rp h38 t0 21 (some h36.1)) fun h39 =>
    if ab_shp h39.1 = (6, 16) then
    (ab_let (ab_nw h39) fun h41 =>
    ab_let (ab_rp h41 t0 22 (some h39.1)) fun h42 =>
    if ab_shp h42.1 = (6, 16) then
    (ab_let (ab_nw h42) fun h44 =>
    ab_let (ab_rp h44 t0 23 (some h42.1)) fun h45 =>
    if ab_shp h45.1 = (6, 5) then
    (ab_let (ab_nw h45) fun h47 =>
    ab_let (ab_rp h47 t0 32 (some h45.1)) fun h48 =>
    if ab_shp h48.1 = (6, 16) then
    (ab_let (ab_nw h48) fun h50 =>
    ab_let (ab_rp h50 t0 39 (some h48.1)) fun h51 =>
    ((ab_r h51 t0 0)).bind fun q53 =>
    if ab_in 1 (ab_shp q53).2 = true then
    (ab_let (ab_ip h51 q53 (1 : Int32).toNatClampNeg 100) fun h55 =>
    ((ab_r h55 t0 0)).bind fun q57 =>
    if ab_in 4 (ab_shp q57).2 = true then
    (ab_let (ab_ip h55 q57 (4 : Int32).toNatClampNeg 10) fun h59 =>
    some h59) else none) else none) else none) else none) else none) else none) else none) else none) else none) else none) else none) else none) else none) else none) else none) else none) else none) else none) else none
def f_X12_isIn (i0 : Int64) (i2 : Int64) (i4 : Int64) (h : ab_HP) : Option Int32 :=
    if (lg_cmp i0 i2) < 0 then (some 0)
    else (if (0 : Int32) < (lg_cmp i0 i4) then (some 0)
    else (some 1))
def f_X12_isShelf (i0 : Int32) (h : ab_HP) : Option Int32 :=
    (f_X12_isIn (i0.toInt64) 0 7 h).bind fun w1 =>
    some w1
def f_X12_wrongRow (t0 : Nat) (i1 : Int32) (i2 : Int32) (h : ab_HP) : Option Int32 :=
    (f_X12_isShelf i1 h).bind fun w1 =>
    if w1 = 0 then (some (-1))
    else (((ab_r h t0 3)).bind fun q5 =>
    if ab_in i1 (ab_shp q5).2 = true then
    (if (ab_i h q5 i1.toNatClampNeg) = 0 then (some (-11))
    else (((ab_r h t0 3)).bind fun q9 =>
    if ab_in i1 (ab_shp q9).2 = true then
    (if (ab_i h q9 i1.toNatClampNeg) = 2 then (if i2 < 0 then (some 0)
    else (((ab_r h t0 4)).bind fun q14 =>
    if ab_in i1 (ab_shp q14).2 = true then
    (if (ab_i h q14 i1.toNatClampNeg) = i2 then (some 0)
    else (some (-12))) else none))
    else (some (-12))) else none)) else none)
def f_X12_here (t0 : Nat) (h : ab_HP) : Option Int32 :=
    if (ab_i h t0 13) ≤ (ab_i h t0 11) then (some (-1000))
    else (((ab_r h t0 6)).bind fun q3 =>
    if ab_in ((ab_i h t0 12) + (ab_i h t0 11)) (ab_shp q3).2 = true then
    (some (ab_i h q3 ((ab_i h t0 12) + (ab_i h t0 11)).toNatClampNeg)) else none)
def f_X12_isDigit (t0 : Nat) (h : ab_HP) : Option Int32 :=
    (f_X12_here t0 h).bind fun w1 =>
    (f_X12_isIn (w1.toInt64) 48 57 h).bind fun w2 =>
    some w2
def f_X12_readsNumber_b74 (t0 : Nat) (i2 : Int32) (h : ab_HP) : Option (Int32 × ab_HP) :=
    ((ab_r h t0 16)).bind fun q15 =>
    if ab_in (ab_i h t0 14) (ab_shp q15).2 = true then
    (ab_let (ab_ip h q15 (ab_i h t0 14).toNatClampNeg i2) fun h17 =>
    ab_let (ab_ip h17 t0 14 ((ab_i h17 t0 14) + (1 : Int32))) fun h18 =>
    some (1, h18)) else none
def f_X12_readsNumber_l29 (t0 : Nat) : Nat → Int32 → Int32 → Int32 → ab_HP → Option (Int32 × ab_HP)
  | 0, _, _, _, _ => none
  | n + 1, i1, i2, i3, h =>
    if i1 ≤ i3 then (f_X12_readsNumber_b74 t0 i2 h)
    else (if i2 ≤ 0 then (f_X12_readsNumber_b74 t0 i2 h)
    else ((f_X12_isDigit t0 h).bind fun w8 =>
    if w8 = 0 then (f_X12_readsNumber_b74 t0 i2 h)
    else ((f_X12_here t0 h).bind fun w11 =>
    ab_let ((((10 : Int32) * i2) + w11) - (48 : Int32)) fun v12 =>
    ab_let (ab_ip h t0 11 ((ab_i h t0 11) + (1 : Int32))) fun h13 =>
    f_X12_readsNumber_l29 t0 n i1 v12 (i3 + (1 : Int32)) h13)))
def f_X12_readsNumber (t0 : Nat) (i1 : Int32) (h : ab_HP) : Option (Int32 × ab_HP) :=
    (f_X12_isDigit t0 h).bind fun w1 =>
    if w1 = 0 then (some (0, h))
    else ((f_X12_here t0 h).bind fun w4 =>
    ab_let (ab_ip h t0 11 ((ab_i h t0 11) + (1 : Int32))) fun h5 =>
    f_X12_readsNumber_l29 t0 1000 i1 (w4 - (48 : Int32)) 1 h5)
def f_X12_takes (t0 : Nat) (i1 : Int32) (h : ab_HP) : Option (Int32 × ab_HP) :=
    (f_X12_here t0 h).bind fun w1 =>
    if w1 = i1 then (ab_let (ab_ip h t0 11 ((ab_i h t0 11) + (1 : Int32))) fun h3 =>
    some (1, h3))
    else (some (0, h))
def f_X12_readsMark (t0 : Nat) (h : ab_HP) : Option (Int32 × ab_HP) :=
    (f_X12_here t0 h).bind fun w1 =>
    (f_X12_isIn (w1.toInt64) 97 106 h).bind fun w2 =>
    if w2 = 0 then (some (0, h))
    else ((f_X12_here t0 h).bind fun w6 =>
    ((ab_r h t0 16)).bind fun q7 =>
    if ab_in (ab_i h t0 14) (ab_shp q7).2 = true then
    (ab_let (ab_ip h q7 (ab_i h t0 14).toNatClampNeg (w6 - (97 : Int32))) fun h9 =>
    ab_let (ab_ip h9 t0 14 ((ab_i h9 t0 14) + (1 : Int32))) fun h10 =>
    ab_let (ab_ip h10 t0 11 ((ab_i h10 t0 11) + (1 : Int32))) fun h11 =>
    some (1, h11)) else none)
def f_X12_readsDeed_l27 (t0 : Nat) : Nat → Int32 → ab_HP → Option (Int32 × ab_HP)
  | 0, _, _ => none
  | n + 1, i1, h =>
    (f_X12_here t0 h).bind fun w9 =>
    (f_X12_isIn (w9.toInt64) ((((97 : Int32) + i1) + (1 : Int32)).toInt64) 106 h).bind fun w10 =>
    if w10 = 0 then (ab_let (ab_ip h t0 14 0) fun h13 =>
    (f_X12_takes t0 32 h13).bind fun w14 =>
    if w14.1 = 0 then (some (0, w14.2))
    else ((f_X12_readsMark t0 w14.2).bind fun w17 =>
    if w17.1 = 0 then (some (0, w17.2))
    else ((f_X12_readsNumber t0 2 w17.2).bind fun w20 =>
    if w20.1 = 0 then (some (0, w20.2))
    else ((f_X12_takes t0 32 w20.2).bind fun w23 =>
    if w23.1 = 0 then (some (0, w23.2))
    else ((f_X12_readsNumber t0 1 w23.2).bind fun w26 =>
    if w26.1 = 0 then (some (0, w26.2))
    else (((ab_r w26.2 t0 16)).bind fun q30 =>
    if ab_in 2 (ab_shp q30).2 = true then
    (ab_let (ab_ip w26.2 t0 18 (ab_i w26.2 q30 (2 : Int32).toNatClampNeg)) fun h32 =>
    some (1, h32)) else none))))))
    else ((f_X12_here t0 h).bind fun w33 =>
    ab_let (ab_ip h t0 15 ((ab_i h t0 15) ||| ((1 : Int32) <<< ((w33 - (97 : Int32)) &&& 31)))) fun h34 =>
    ab_let (ab_ip h34 t0 11 ((ab_i h34 t0 11) + (1 : Int32))) fun h35 =>
    f_X12_readsDeed_l27 t0 n (w33 - (97 : Int32)) h35)
def f_X12_readsDeed (t0 : Nat) (h : ab_HP) : Option (Int32 × ab_HP) :=
    (f_X12_readsNumber t0 1 h).bind fun w1 =>
    if w1.1 = 0 then (some (0, w1.2))
    else (((ab_r w1.2 t0 16)).bind fun q5 =>
    if ab_in 0 (ab_shp q5).2 = true then
    (ab_let (ab_ip w1.2 t0 17 (ab_i w1.2 q5 (0 : Int32).toNatClampNeg)) fun h7 =>
    ab_let (ab_ip h7 t0 15 0) fun h8 =>
    f_X12_readsDeed_l27 t0 1000 (-1) h8) else none)
def f_X12_readsStatement_b211 (t0 : Nat) (i2 : Int32) (h : ab_HP) : Option (Int32 × ab_HP) :=
    if i2 = 0 then (some (0, h))
    else ((f_X12_takes t0 59 h).bind fun w42 =>
    if w42.1 = 0 then (some (0, w42.2))
    else (some (1, w42.2)))
def f_X12_readsStatement_b184 (t0 : Nat) (i3 : Int32) (h : ab_HP) : Option (Int32 × ab_HP) :=
    (f_X12_readsNumber t0 1 h).bind fun w45 =>
    if w45.1 = 0 then (f_X12_readsStatement_b211 t0 w45.1 w45.2)
    else (if i3 = 0 then (f_X12_readsStatement_b211 t0 w45.1 w45.2)
    else (((ab_r w45.2 t0 16)).bind fun q51 =>
    if ab_in 1 (ab_shp q51).2 = true then
    (if ab_in 1 (ab_shp q51).2 = true then
    (ab_let (ab_ip w45.2 q51 (1 : Int32).toNatClampNeg (-(ab_i w45.2 q51 (1 : Int32).toNatClampNeg))) fun h54 =>
    f_X12_readsStatement_b211 t0 w45.1 h54) else none) else none))
def f_X12_readsStatement_b42 (t0 : Nat) (i1 : Int32) (h : ab_HP) : Option (Int32 × ab_HP) :=
    ab_let (ab_ip h t0 11 ((ab_i h t0 11) + (1 : Int32))) fun h8 =>
    if i1 = 99 then ((f_X12_readsNumber t0 4 h8).bind fun w10 =>
    f_X12_readsStatement_b211 t0 w10.1 w10.2)
    else if i1 = 100 then ((f_X12_readsDeed t0 h8).bind fun w13 =>
    f_X12_readsStatement_b211 t0 w13.1 w13.2)
    else if i1 = 108 then ((f_X12_readsNumber t0 1 h8).bind fun w16 =>
    f_X12_readsStatement_b211 t0 w16.1 w16.2)
    else if i1 = 109 then ((f_X12_readsMark t0 h8).bind fun w19 =>
    f_X12_readsStatement_b211 t0 w19.1 w19.2)
    else ((f_X12_readsNumber t0 2 h8).bind fun w21 =>
    if w21.1 = 0 then (some (0, w21.2))
    else ((f_X12_takes t0 32 w21.2).bind fun w24 =>
    if w24.1 = 0 then (some (0, w24.2))
    else ((f_X12_here t0 w24.2).bind fun w27 =>
    if w27 = 45 then ((f_X12_takes t0 43 w24.2).bind fun w35 =>
    if w35.1 = 0 then ((f_X12_takes t0 45 w35.2).bind fun w38 =>
    if w38.1 = 0 then (some (0, w38.2))
    else (f_X12_readsStatement_b184 t0 1 w38.2))
    else (f_X12_readsStatement_b184 t0 1 w35.2))
    else ((f_X12_takes t0 43 w24.2).bind fun w29 =>
    if w29.1 = 0 then ((f_X12_takes t0 45 w29.2).bind fun w32 =>
    if w32.1 = 0 then (some (0, w32.2))
    else (f_X12_readsStatement_b184 t0 0 w32.2))
    else (f_X12_readsStatement_b184 t0 0 w29.2)))))
def f_X12_readsStatement (t0 : Nat) (h : ab_HP) : Option (Int32 × ab_HP) :=
    (f_X12_here t0 h).bind fun w1 =>
    ab_let (ab_ip h t0 14 0) fun h2 =>
    if w1 = 100 then (f_X12_readsStatement_b42 t0 w1 h2)
    else (if w1 = 109 then (f_X12_readsStatement_b42 t0 w1 h2)
    else (if w1 = 99 then (f_X12_readsStatement_b42 t0 w1 h2)
    else (if w1 = 110 then (f_X12_readsStatement_b42 t0 w1 h2)
    else (if w1 = 108 then (f_X12_readsStatement_b42 t0 w1 h2)
    else (some (0, h2))))))
def f_X12_comes (t0 : Nat) (i1 : Int32) (h : ab_HP) : Option (Int32 × ab_HP) :=
    ((ab_r h t0 16)).bind fun q2 =>
    if ab_in 0 (ab_shp q2).2 = true then
    (if i1 = 99 then (((ab_r h t0 2)).bind fun q6 =>
    if ab_in 1 (ab_shp q6).2 = true then
    (ab_let (ab_ip h q6 (1 : Int32).toNatClampNeg (ab_i h q2 (0 : Int32).toNatClampNeg)) fun h8 =>
    some (1, h8)) else none)
    else if i1 = 100 then (if 7 < (ab_i h t0 17) then (some (0, h))
    else (((ab_r h t0 2)).bind fun q12 =>
    if ab_in 6 (ab_shp q12).2 = true then
    (if (ab_i h q12 (6 : Int32).toNatClampNeg) = 8 then (some (0, h))
    else (((ab_r h t0 2)).bind fun q16 =>
    if ab_in 6 (ab_shp q16).2 = true then
    (ab_let ((7 : Int32) + ((5 : Int32) * (ab_i h q16 (6 : Int32).toNatClampNeg))) fun v18 =>
    ((ab_r h t0 2)).bind fun q20 =>
    if ab_in (v18 + (0 : Int32)) (ab_shp q20).2 = true then
    (ab_let (ab_ip h q20 (v18 + (0 : Int32)).toNatClampNeg (ab_i h t0 17)) fun h22 =>
    ((ab_r h22 t0 2)).bind fun q24 =>
    if ab_in (v18 + (1 : Int32)) (ab_shp q24).2 = true then
    (ab_let (ab_ip h22 q24 (v18 + (1 : Int32)).toNatClampNeg (ab_i h22 t0 15)) fun h26 =>
    ((ab_r h26 t0 2)).bind fun q28 =>
    if ab_in (v18 + (2 : Int32)) (ab_shp q28).2 = true then
    (ab_let (ab_ip h26 q28 (v18 + (2 : Int32)).toNatClampNeg (ab_i h q2 (0 : Int32).toNatClampNeg)) fun h30 =>
    ((ab_r h30 t0 16)).bind fun q33 =>
    if ab_in 1 (ab_shp q33).2 = true then
    (((ab_r h30 t0 2)).bind fun q35 =>
    if ab_in (v18 + (3 : Int32)) (ab_shp q35).2 = true then
    (ab_let (ab_ip h30 q35 (v18 + (3 : Int32)).toNatClampNeg (ab_i h30 q33 (1 : Int32).toNatClampNeg)) fun h37 =>
    ((ab_r h37 t0 2)).bind fun q39 =>
    if ab_in (v18 + (4 : Int32)) (ab_shp q39).2 = true then
    (ab_let (ab_ip h37 q39 (v18 + (4 : Int32)).toNatClampNeg (ab_i h37 t0 18)) fun h41 =>
    ((ab_r h41 t0 2)).bind fun q43 =>
    if ab_in 6 (ab_shp q43).2 = true then
    (if ab_in 6 (ab_shp q43).2 = true then
    (ab_let (ab_ip h41 q43 (6 : Int32).toNatClampNeg ((ab_i h41 q43 (6 : Int32).toNatClampNeg) + (1 : Int32))) fun h46 =>
    some (1, h46)) else none) else none) else none) else none) else none) else none) else none) else none) else none)) else none))
    else if i1 = 108 then (((ab_r h t0 2)).bind fun q49 =>
    if ab_in 3 (ab_shp q49).2 = true then
    (ab_let (ab_ip h q49 (3 : Int32).toNatClampNeg (ab_i h q2 (0 : Int32).toNatClampNeg)) fun h51 =>
    if 3 ≤ (ab_i h q2 (0 : Int32).toNatClampNeg) then (some (0, h51))
    else (some (1, h51))) else none)
    else if i1 = 109 then (((ab_r h t0 2)).bind fun q55 =>
    if ab_in 0 (ab_shp q55).2 = true then
    (if (((ab_i h q55 (0 : Int32).toNatClampNeg) >>> ((ab_i h q2 (0 : Int32).toNatClampNeg) &&& 31)) &&& (1 : Int32)) = 1 then (some (0, h))
    else (((ab_r h t0 2)).bind fun q59 =>
    if ab_in 0 (ab_shp q59).2 = true then
    (if ab_in 0 (ab_shp q59).2 = true then
    (ab_let (ab_ip h q59 (0 : Int32).toNatClampNeg ((ab_i h q59 (0 : Int32).toNatClampNeg) ||| ((1 : Int32) <<< ((ab_i h q2 (0 : Int32).toNatClampNeg) &&& 31)))) fun h62 =>
    some (1, h62)) else none) else none)) else none)
    else (((ab_r h t0 2)).bind fun q64 =>
    if ab_in 4 (ab_shp q64).2 = true then
    (ab_let (ab_ip h q64 (4 : Int32).toNatClampNeg (ab_i h q2 (0 : Int32).toNatClampNeg)) fun h66 =>
    ((ab_r h66 t0 16)).bind fun q69 =>
    if ab_in 1 (ab_shp q69).2 = true then
    (((ab_r h66 t0 2)).bind fun q71 =>
    if ab_in 5 (ab_shp q71).2 = true then
    (ab_let (ab_ip h66 q71 (5 : Int32).toNatClampNeg (ab_i h66 q69 (1 : Int32).toNatClampNeg)) fun h73 =>
    some (1, h73)) else none) else none) else none)) else none
def f_X12_town_l154 (t0 : Nat) : Nat → Int32 → Int32 → ab_HP → Option (Int32 × ab_HP)
  | 0, _, _, _ => none
  | n + 1, i3, i4, h =>
    if 47 ≤ i4 then (some (i3, h))
    else (((ab_r h t0 2)).bind fun q32 =>
    if ab_in i4 (ab_shp q32).2 = true then
    (((ab_r h t0 0)).bind fun q34 =>
    if ab_in i4 (ab_shp q34).2 = true then
    (ab_let (ab_ip h q34 i4.toNatClampNeg (ab_i h q32 i4.toNatClampNeg)) fun h36 =>
    f_X12_town_l154 t0 n i3 (i4 + (1 : Int32)) h36) else none) else none)
def f_X12_town_l103 (t0 : Nat) : Nat → Int32 → ab_HP → Option (Int32 × ab_HP)
  | 0, _, _ => none
  | n + 1, i3, h =>
    if (ab_i h t0 13) ≤ (ab_i h t0 11) then (f_X12_town_l154 t0 1000 i3 0 h)
    else ((f_X12_here t0 h).bind fun w23 =>
    (f_X12_readsStatement t0 h).bind fun w24 =>
    (f_X12_comes t0 w23 w24.2).bind fun w26 =>
    if w26.1 = 0 then (some (((-2000 : Int32) - (ab_i h t0 11)), w26.2))
    else (f_X12_town_l103 t0 n i3 w26.2))
def f_X12_town_l71 (t0 : Nat) : Nat → Int32 → Int32 → ab_HP → Option (Int32 × ab_HP)
  | 0, _, _, _ => none
  | n + 1, i3, i4, h =>
    if 47 ≤ i4 then (ab_let (ab_ip h t0 11 0) fun h14 =>
    f_X12_town_l103 t0 1000 i3 h14)
    else (((ab_r h t0 0)).bind fun q17 =>
    if ab_in i4 (ab_shp q17).2 = true then
    (((ab_r h t0 2)).bind fun q19 =>
    if ab_in i4 (ab_shp q19).2 = true then
    (ab_let (ab_ip h q19 i4.toNatClampNeg (ab_i h q17 i4.toNatClampNeg)) fun h21 =>
    f_X12_town_l71 t0 n i3 (i4 + (1 : Int32)) h21) else none) else none)
def f_X12_town_l38 (t0 : Nat) : Nat → Int32 → ab_HP → Option (Int32 × ab_HP)
  | 0, _, _ => none
  | n + 1, i3, h =>
    (f_X12_readsStatement t0 h).bind fun w9 =>
    if w9.1 = 0 then (some (((-1000 : Int32) - (ab_i w9.2 t0 11)), w9.2))
    else (if (ab_i w9.2 t0 11) < (ab_i w9.2 t0 13) then (f_X12_town_l38 t0 n (i3 + (1 : Int32)) w9.2)
    else (f_X12_town_l71 t0 1000 (i3 + (1 : Int32)) 0 w9.2))
def f_X12_town (t0 : Nat) (i1 : Int32) (h : ab_HP) : Option (Int32 × ab_HP) :=
    (f_X12_wrongRow t0 i1 0 h).bind fun w1 =>
    if w1 = 0 then (ab_let (ab_ip h t0 12 ((100 : Int32) * i1)) fun h3 =>
    ((ab_r h3 t0 5)).bind fun q5 =>
    if ab_in i1 (ab_shp q5).2 = true then
    (ab_let (ab_ip h3 t0 13 (ab_i h3 q5 i1.toNatClampNeg)) fun h7 =>
    ab_let (ab_ip h7 t0 11 0) fun h8 =>
    f_X12_town_l38 t0 1000 0 h8) else none)
    else (some (w1, h))
def f_X12_isDeed (t0 : Nat) (i1 : Int32) (h : ab_HP) : Option Int32 :=
    ((ab_r h t0 0)).bind fun q2 =>
    if ab_in 6 (ab_shp q2).2 = true then
    ((f_X12_isIn (i1.toInt64) 0 (((ab_i h q2 (6 : Int32).toNatClampNeg) - (1 : Int32)).toInt64) h).bind fun w4 =>
    some w4) else none
def f_X12_get (t0 : Nat) (i1 : Int32) (i2 : Int32) (h : ab_HP) : Option Int32 :=
    ((ab_r h t0 0)).bind fun q2 =>
    if ab_in (((7 : Int32) + ((5 : Int32) * i1)) + i2) (ab_shp q2).2 = true then
    (some (ab_i h q2 (((7 : Int32) + ((5 : Int32) * i1)) + i2).toNatClampNeg)) else none
def f_X12_costOf (t0 : Nat) (i1 : Int32) (h : ab_HP) : Option Int32 :=
    (f_X12_get t0 i1 3 h).bind fun w1 =>
    (f_X12_get t0 i1 0 h).bind fun w2 =>
    if w2 = 1 then ((f_X12_get t0 i1 4 h).bind fun w4 =>
    some (w1 + w4))
    else if w2 = 3 then (some (w1 / (2 : Int32)))
    else if w2 = 4 then (some 0)
    else if w2 = 5 then ((f_X12_get t0 i1 4 h).bind fun w8 =>
    some ((w1 + w8) + (5 : Int32)))
    else if w2 = 7 then (some 0)
    else (some w1)
def f_X12_backOf_b48 (t0 : Nat) (i1 : Int32) (h : ab_HP) : Option Int32 :=
    (f_X12_costOf t0 i1 h).bind fun w9 =>
    some (w9 / (2 : Int32))
def f_X12_backOf_b65 (t0 : Nat) (i1 : Int32) (h : ab_HP) : Option Int32 :=
    (f_X12_costOf t0 i1 h).bind fun w10 =>
    some w10
def f_X12_backOf (t0 : Nat) (i1 : Int32) (h : ab_HP) : Option Int32 :=
    (f_X12_get t0 i1 0 h).bind fun w1 =>
    if w1 = 1 then (f_X12_backOf_b48 t0 i1 h)
    else if w1 = 2 then (some 0)
    else if w1 = 3 then ((f_X12_get t0 i1 4 h).bind fun w5 =>
    some w5)
    else if w1 = 4 then (some 0)
    else if w1 = 5 then (f_X12_backOf_b48 t0 i1 h)
    else if w1 = 7 then (some 0)
    else (f_X12_backOf_b65 t0 i1 h)
def f_X12_isKept_b42 (t0 : Nat) (i1 : Int32) (h : ab_HP) : Option Int32 :=
    (f_X12_get t0 i1 4 h).bind fun w7 =>
    if w7 < 5 then (some 0)
    else (some 1)
def f_X12_isKept (t0 : Nat) (i1 : Int32) (h : ab_HP) : Option Int32 :=
    (f_X12_get t0 i1 0 h).bind fun w1 =>
    if w1 = 5 then ((f_X12_get t0 i1 4 h).bind fun w5 =>
    if w5 = 9 then (some 1)
    else (some 0))
    else (if w1 = 4 then (f_X12_isKept_b42 t0 i1 h)
    else (if w1 = 7 then (f_X12_isKept_b42 t0 i1 h)
    else (some 0)))
def f_X12_deed (t0 : Nat) (i1 : Int32) (i2 : Int32) (h : ab_HP) : Option Int32 :=
    (f_X12_isDeed t0 i1 h).bind fun w1 =>
    if w1 = 0 then (some (-1))
    else ((f_X12_isIn (i2.toInt64) 0 4 h).bind fun w4 =>
    if w4 = 0 then (if i2 = 5 then ((f_X12_costOf t0 i1 h).bind fun w14 =>
    some w14)
    else (if i2 = 6 then ((f_X12_backOf t0 i1 h).bind fun w13 =>
    some w13)
    else (if i2 = 7 then ((f_X12_isKept t0 i1 h).bind fun w10 =>
    if w10 = 0 then (some 0)
    else (some 1))
    else (some (-1)))))
    else ((f_X12_get t0 i1 i2 h).bind fun w15 =>
    some w15))
def f_X12_marks (t0 : Nat) (h : ab_HP) : Option Int32 :=
    ((ab_r h t0 0)).bind fun q2 =>
    if ab_in 0 (ab_shp q2).2 = true then
    (some (ab_i h q2 (0 : Int32).toNatClampNeg)) else none
def f_X12_state (t0 : Nat) (i1 : Int32) (h : ab_HP) : Option Int32 :=
    (f_X12_isIn (i1.toInt64) 0 3 h).bind fun w1 =>
    if w1 = 0 then (some (-1))
    else (((ab_r h t0 0)).bind fun q5 =>
    if ab_in ((1 : Int32) + i1) (ab_shp q5).2 = true then
    (some (ab_i h q5 ((1 : Int32) + i1).toNatClampNeg)) else none)
def f_X12_rise (t0 : Nat) (h : ab_HP) : Option Int32 :=
    ((ab_r h t0 0)).bind fun q2 =>
    if ab_in 5 (ab_shp q2).2 = true then
    (some (ab_i h q2 (5 : Int32).toNatClampNeg)) else none
def f_X12_set (t0 : Nat) (i1 : Int32) (i2 : Int32) (h : ab_HP) : Option (Int32 × ab_HP) :=
    (f_X12_isIn (i1.toInt64) 0 2 h).bind fun w1 =>
    if w1 = 0 then (some ((-1), h))
    else (if i1 = 0 then ((f_X12_isIn (i2.toInt64) 0 2 h).bind fun w58 =>
    if w58 = 0 then (some ((-1), h))
    else (if i1 = 0 then (((ab_r h t0 0)).bind fun q78 =>
    if ab_in 3 (ab_shp q78).2 = true then
    (((ab_r h t0 0)).bind fun q81 =>
    if ab_in 3 (ab_shp q81).2 = true then
    (ab_let (ab_ip h q81 (3 : Int32).toNatClampNeg i2) fun h83 =>
    some ((ab_i h q78 (3 : Int32).toNatClampNeg), h83)) else none) else none)
    else (if i1 = 1 then (((ab_r h t0 0)).bind fun q71 =>
    if ab_in 4 (ab_shp q71).2 = true then
    (((ab_r h t0 0)).bind fun q74 =>
    if ab_in 4 (ab_shp q74).2 = true then
    (ab_let (ab_ip h q74 (4 : Int32).toNatClampNeg i2) fun h76 =>
    some ((ab_i h q71 (4 : Int32).toNatClampNeg), h76)) else none) else none)
    else (((ab_r h t0 0)).bind fun q64 =>
    if ab_in 1 (ab_shp q64).2 = true then
    (((ab_r h t0 0)).bind fun q67 =>
    if ab_in 1 (ab_shp q67).2 = true then
    (ab_let (ab_ip h q67 (1 : Int32).toNatClampNeg i2) fun h69 =>
    some ((ab_i h q64 (1 : Int32).toNatClampNeg), h69)) else none) else none))))
    else (if i1 = 1 then ((f_X12_isIn (i2.toInt64) 0 99 h).bind fun w32 =>
    if w32 = 0 then (some ((-1), h))
    else (if i1 = 0 then (((ab_r h t0 0)).bind fun q52 =>
    if ab_in 3 (ab_shp q52).2 = true then
    (((ab_r h t0 0)).bind fun q55 =>
    if ab_in 3 (ab_shp q55).2 = true then
    (ab_let (ab_ip h q55 (3 : Int32).toNatClampNeg i2) fun h57 =>
    some ((ab_i h q52 (3 : Int32).toNatClampNeg), h57)) else none) else none)
    else (if i1 = 1 then (((ab_r h t0 0)).bind fun q45 =>
    if ab_in 4 (ab_shp q45).2 = true then
    (((ab_r h t0 0)).bind fun q48 =>
    if ab_in 4 (ab_shp q48).2 = true then
    (ab_let (ab_ip h q48 (4 : Int32).toNatClampNeg i2) fun h50 =>
    some ((ab_i h q45 (4 : Int32).toNatClampNeg), h50)) else none) else none)
    else (((ab_r h t0 0)).bind fun q38 =>
    if ab_in 1 (ab_shp q38).2 = true then
    (((ab_r h t0 0)).bind fun q41 =>
    if ab_in 1 (ab_shp q41).2 = true then
    (ab_let (ab_ip h q41 (1 : Int32).toNatClampNeg i2) fun h43 =>
    some ((ab_i h q38 (1 : Int32).toNatClampNeg), h43)) else none) else none))))
    else ((f_X12_isIn (i2.toInt64) 0 9999 h).bind fun w6 =>
    if w6 = 0 then (some ((-1), h))
    else (if i1 = 0 then (((ab_r h t0 0)).bind fun q26 =>
    if ab_in 3 (ab_shp q26).2 = true then
    (((ab_r h t0 0)).bind fun q29 =>
    if ab_in 3 (ab_shp q29).2 = true then
    (ab_let (ab_ip h q29 (3 : Int32).toNatClampNeg i2) fun h31 =>
    some ((ab_i h q26 (3 : Int32).toNatClampNeg), h31)) else none) else none)
    else (if i1 = 1 then (((ab_r h t0 0)).bind fun q19 =>
    if ab_in 4 (ab_shp q19).2 = true then
    (((ab_r h t0 0)).bind fun q22 =>
    if ab_in 4 (ab_shp q22).2 = true then
    (ab_let (ab_ip h q22 (4 : Int32).toNatClampNeg i2) fun h24 =>
    some ((ab_i h q19 (4 : Int32).toNatClampNeg), h24)) else none) else none)
    else (((ab_r h t0 0)).bind fun q12 =>
    if ab_in 1 (ab_shp q12).2 = true then
    (((ab_r h t0 0)).bind fun q15 =>
    if ab_in 1 (ab_shp q15).2 = true then
    (ab_let (ab_ip h q15 (1 : Int32).toNatClampNeg i2) fun h17 =>
    some ((ab_i h q12 (1 : Int32).toNatClampNeg), h17)) else none) else none))))))
def f_X12_mayBy (t0 : Nat) (i1 : Int32) (i2 : Int32) (i3 : Int32) (h : ab_HP) : Option Int32 :=
    (f_X12_get t0 i1 1 h).bind fun w1 =>
    if (w1 &&& (i2 ^^^ (-1 : Int32))) = 0 then ((f_X12_costOf t0 i1 h).bind fun w3 =>
    if i3 < w3 then (some 0)
    else (some 1))
    else (some 0)
def f_X12_may (t0 : Nat) (i1 : Int32) (h : ab_HP) : Option Int32 :=
    (f_X12_isDeed t0 i1 h).bind fun w1 =>
    if w1 = 0 then (some (-1))
    else (((ab_r h t0 0)).bind fun q5 =>
    if ab_in 0 (ab_shp q5).2 = true then
    (((ab_r h t0 0)).bind fun q8 =>
    if ab_in 1 (ab_shp q8).2 = true then
    ((f_X12_mayBy t0 i1 (ab_i h q5 (0 : Int32).toNatClampNeg) (ab_i h q8 (1 : Int32).toNatClampNeg) h).bind fun w10 =>
    if w10 = 0 then (some 0)
    else (some 1)) else none) else none)
def f_X12_areNails (i0 : Int32) (h : ab_HP) : Option Int32 :=
    (f_X12_isIn (i0.toInt64) 0 255 h).bind fun w1 =>
    some w1
def f_X12_wrongList_l29 (t0 : Nat) : Nat → Int32 → Int32 → ab_HP → Option Int32
  | 0, _, _, _ => none
  | n + 1, i1, i3, h =>
    ((ab_r h t0 5)).bind fun q8 =>
    if ab_in i1 (ab_shp q8).2 = true then
    (if (ab_i h q8 i1.toNatClampNeg) ≤ i3 then (some 0)
    else (((ab_r h t0 6)).bind fun q12 =>
    if ab_in (((100 : Int32) * i1) + i3) (ab_shp q12).2 = true then
    ((f_X12_isDeed t0 (ab_i h q12 (((100 : Int32) * i1) + i3).toNatClampNeg) h).bind fun w14 =>
    if w14 = 0 then (some (-13))
    else (f_X12_wrongList_l29 t0 n i1 (i3 + (1 : Int32)) h)) else none)) else none
def f_X12_wrongList (t0 : Nat) (i1 : Int32) (h : ab_HP) : Option Int32 :=
    (f_X12_wrongRow t0 i1 0 h).bind fun w1 =>
    if w1 = 0 then (((ab_r h t0 5)).bind fun q4 =>
    if ab_in i1 (ab_shp q4).2 = true then
    (if (ab_i h q4 i1.toNatClampNeg) ≤ 8 then (f_X12_wrongList_l29 t0 1000 i1 0 h)
    else (some (-13))) else none)
    else (some w1)
def f_X12_begins (t0 : Nat) (h : ab_HP) : Option ab_HP :=
    ((ab_r h t0 0)).bind fun q2 =>
    if ab_in 0 (ab_shp q2).2 = true then
    (ab_let (ab_ip h t0 26 (ab_i h q2 (0 : Int32).toNatClampNeg)) fun h4 =>
    ((ab_r h4 t0 0)).bind fun q6 =>
    if ab_in 1 (ab_shp q6).2 = true then
    (ab_let (ab_ip h4 t0 27 (ab_i h4 q6 (1 : Int32).toNatClampNeg)) fun h8 =>
    ab_let (ab_ip h8 t0 28 0) fun h9 =>
    ab_let (ab_ip h9 t0 29 0) fun h10 =>
    some h10) else none) else none
def f_X12_lays_l12 (t0 : Nat) : Nat → Int32 → Int32 → Int32 → ab_HP → Option ab_HP
  | 0, _, _, _, _ => none
  | n + 1, i1, i2, i3, h =>
    if (ab_i h t0 24) ≤ i3 then (ab_let (ab_ip h t0 25 i2) fun h6 =>
    (f_X12_begins t0 h6).bind fun w7 =>
    some w7)
    else (((ab_r h t0 6)).bind fun q10 =>
    if ab_in (((100 : Int32) * i1) + i3) (ab_shp q10).2 = true then
    (((ab_r h t0 19)).bind fun q12 =>
    if ab_in i3 (ab_shp q12).2 = true then
    (ab_let (ab_ip h q12 i3.toNatClampNeg (ab_i h q10 (((100 : Int32) * i1) + i3).toNatClampNeg)) fun h14 =>
    f_X12_lays_l12 t0 n i1 i2 (i3 + (1 : Int32)) h14) else none) else none)
def f_X12_lays (t0 : Nat) (i1 : Int32) (i2 : Int32) (h : ab_HP) : Option ab_HP :=
    ((ab_r h t0 5)).bind fun q2 =>
    if ab_in i1 (ab_shp q2).2 = true then
    (ab_let (ab_ip h t0 24 (ab_i h q2 i1.toNatClampNeg)) fun h4 =>
    f_X12_lays_l12 t0 1000 i1 i2 0 h4) else none
def f_X12_marksBy (t0 : Nat) (i1 : Int32) (i2 : Int32) (h : ab_HP) : Option Int32 :=
    (f_X12_get t0 i1 2 h).bind fun w1 =>
    (f_X12_get t0 i1 0 h).bind fun w2 =>
    if w2 = 6 then (some (i2 &&& (((1 : Int32) <<< (w1 &&& 31)) ^^^ (-1 : Int32))))
    else if w2 = 7 then ((f_X12_get t0 i1 4 h).bind fun w5 =>
    some ((i2 ||| ((1 : Int32) <<< (w1 &&& 31))) ||| ((1 : Int32) <<< (w5 &&& 31))))
    else (some (i2 ||| ((1 : Int32) <<< (w1 &&& 31))))
def f_X12_priceOf (t0 : Nat) (i1 : Int32) (h : ab_HP) : Option Int32 :=
    ((ab_r h t0 0)).bind fun q2 =>
    if ab_in 4 (ab_shp q2).2 = true then
    (((ab_r h t0 0)).bind fun q5 =>
    if ab_in 5 (ab_shp q5).2 = true then
    (ab_let ((ab_i h q2 (4 : Int32).toNatClampNeg) + (i1 * (ab_i h q5 (5 : Int32).toNatClampNeg))) fun v7 =>
    if (0 : Int32) ≤ v7 then (some v7)
    else (some 0)) else none) else none
def f_X12_evenYear_b183 (k2 : Int32 → ab_HP → Option ab_HP) (t0 : Nat) (i1 : Int32) (h : ab_HP) : Option ab_HP :=
    ((ab_r h t0 23)).bind fun q64 =>
    if ab_in i1 (ab_shp q64).2 = true then
    (ab_let (ab_ip h q64 i1.toNatClampNeg (ab_i h t0 26)) fun h66 =>
    k2 (i1 + (1 : Int32)) h66) else none
def f_X12_evenYear_l2 (t0 : Nat) : Nat → Int32 → ab_HP → Option ab_HP
  | 0, _, _ => none
  | n + 1, i1, h =>
    if (ab_i h t0 24) ≤ i1 then (some h)
    else (((ab_r h t0 19)).bind fun q3 =>
    if ab_in i1 (ab_shp q3).2 = true then
    (((ab_r h t0 22)).bind fun q6 =>
    if ab_in i1 (ab_shp q6).2 = true then
    (ab_let (ab_ip h q6 i1.toNatClampNeg 0) fun h8 =>
    ((ab_r h8 t0 20)).bind fun q10 =>
    if ab_in i1 (ab_shp q10).2 = true then
    (ab_let (ab_ip h8 q10 i1.toNatClampNeg 0) fun h12 =>
    (f_X12_mayBy t0 (ab_i h q3 i1.toNatClampNeg) (ab_i h12 t0 26) (ab_i h12 t0 27) h12).bind fun w13 =>
    if w13 = 0 then (f_X12_evenYear_b183 (f_X12_evenYear_l2 t0 n) t0 i1 h12)
    else ((f_X12_marksBy t0 (ab_i h q3 i1.toNatClampNeg) (ab_i h12 t0 26) h12).bind fun w16 =>
    ((ab_r h12 t0 20)).bind fun q18 =>
    if ab_in i1 (ab_shp q18).2 = true then
    (ab_let (ab_ip h12 q18 i1.toNatClampNeg (w16 ^^^ (ab_i h12 t0 26))) fun h20 =>
    ((ab_r h20 t0 20)).bind fun q23 =>
    if ab_in i1 (ab_shp q23).2 = true then
    (((ab_r h20 t0 21)).bind fun q25 =>
    if ab_in i1 (ab_shp q25).2 = true then
    (ab_let (ab_ip h20 q25 i1.toNatClampNeg ((ab_i h20 t0 26) &&& (ab_i h20 q23 i1.toNatClampNeg))) fun h27 =>
    ab_let (ab_ip h27 t0 26 w16) fun h28 =>
    (f_X12_costOf t0 (ab_i h q3 i1.toNatClampNeg) h28).bind fun w29 =>
    ab_let (ab_ip h28 t0 27 ((ab_i h28 t0 27) - w29)) fun h30 =>
    (f_X12_isKept t0 (ab_i h q3 i1.toNatClampNeg) h30).bind fun w32 =>
    if w32 = 0 then (((ab_r h30 t0 22)).bind fun q35 =>
    if ab_in i1 (ab_shp q35).2 = true then
    (ab_let (ab_ip h30 q35 i1.toNatClampNeg 1) fun h37 =>
    if (((ab_i h37 t0 25) >>> (i1 &&& 31)) &&& (1 : Int32)) = 1 then ((f_X12_priceOf t0 i1 h37).bind fun w39 =>
    if (ab_i h37 t0 27) < w39 then (f_X12_evenYear_b183 (f_X12_evenYear_l2 t0 n) t0 i1 h37)
    else ((f_X12_priceOf t0 i1 h37).bind fun w41 =>
    ab_let (ab_ip h37 t0 27 ((ab_i h37 t0 27) - w41)) fun h42 =>
    (f_X12_priceOf t0 i1 h42).bind fun w43 =>
    ab_let (ab_ip h42 t0 28 ((ab_i h42 t0 28) + w43)) fun h44 =>
    ((ab_r h44 t0 22)).bind fun q46 =>
    if ab_in i1 (ab_shp q46).2 = true then
    (ab_let (ab_ip h44 q46 i1.toNatClampNeg 2) fun h48 =>
    f_X12_evenYear_b183 (f_X12_evenYear_l2 t0 n) t0 i1 h48) else none))
    else (f_X12_evenYear_b183 (f_X12_evenYear_l2 t0 n) t0 i1 h37)) else none)
    else (((ab_r h30 t0 22)).bind fun q49 =>
    if ab_in i1 (ab_shp q49).2 = true then
    (ab_let (ab_ip h30 q49 i1.toNatClampNeg 3) fun h51 =>
    if (((ab_i h51 t0 25) >>> (i1 &&& 31)) &&& (1 : Int32)) = 1 then ((f_X12_priceOf t0 i1 h51).bind fun w53 =>
    if (ab_i h51 t0 27) < w53 then (f_X12_evenYear_b183 (f_X12_evenYear_l2 t0 n) t0 i1 h51)
    else ((f_X12_priceOf t0 i1 h51).bind fun w55 =>
    ab_let (ab_ip h51 t0 27 ((ab_i h51 t0 27) - w55)) fun h56 =>
    (f_X12_priceOf t0 i1 h56).bind fun w57 =>
    ab_let (ab_ip h56 t0 28 ((ab_i h56 t0 28) + w57)) fun h58 =>
    ((ab_r h58 t0 22)).bind fun q60 =>
    if ab_in i1 (ab_shp q60).2 = true then
    (ab_let (ab_ip h58 q60 i1.toNatClampNeg 2) fun h62 =>
    f_X12_evenYear_b183 (f_X12_evenYear_l2 t0 n) t0 i1 h62) else none))
    else (f_X12_evenYear_b183 (f_X12_evenYear_l2 t0 n) t0 i1 h51)) else none)) else none) else none) else none)) else none) else none) else none)
def f_X12_evenYear (t0 : Nat) (h : ab_HP) : Option ab_HP :=
    f_X12_evenYear_l2 t0 1000 0 h
def f_X12_holds (t0 : Nat) (i1 : Int32) (h : ab_HP) : Option Int32 :=
    ((ab_r h t0 22)).bind fun q2 =>
    if ab_in i1 (ab_shp q2).2 = true then
    (if (ab_i h q2 i1.toNatClampNeg) = 2 then (some 1)
    else (((ab_r h t0 22)).bind fun q6 =>
    if ab_in i1 (ab_shp q6).2 = true then
    (if (ab_i h q6 i1.toNatClampNeg) = 3 then (some 1)
    else (some 0)) else none)) else none
def f_X12_isHeld_l4 (t0 : Nat) : Nat → Int32 → Int32 → ab_HP → Option Int32
  | 0, _, _, _ => none
  | n + 1, i1, i2, h =>
    if (ab_i h t0 24) ≤ i2 then (some 0)
    else ((f_X12_holds t0 i2 h).bind fun w2 =>
    if w2 = 0 then (f_X12_isHeld_l4 t0 n i1 (i2 + (1 : Int32)) h)
    else (((ab_r h t0 19)).bind fun q6 =>
    if ab_in i2 (ab_shp q6).2 = true then
    ((f_X12_get t0 (ab_i h q6 i2.toNatClampNeg) 1 h).bind fun w8 =>
    ((ab_r h t0 20)).bind fun q10 =>
    if ab_in i1 (ab_shp q10).2 = true then
    (if (w8 &&& (ab_i h q10 i1.toNatClampNeg)) = 0 then (f_X12_isHeld_l4 t0 n i1 (i2 + (1 : Int32)) h)
    else (some 1)) else none) else none))
def f_X12_isHeld (t0 : Nat) (i1 : Int32) (h : ab_HP) : Option Int32 :=
    f_X12_isHeld_l4 t0 1000 i1 (i1 + (1 : Int32)) h
def f_X12_undoes (t0 : Nat) (i1 : Int32) (i2 : Int32) (h : ab_HP) : Option ab_HP :=
    ((ab_r h t0 20)).bind fun q2 =>
    if ab_in i1 (ab_shp q2).2 = true then
    (((ab_r h t0 21)).bind fun q5 =>
    if ab_in i1 (ab_shp q5).2 = true then
    (ab_let (ab_ip h t0 26 (((ab_i h t0 26) &&& ((ab_i h q2 i1.toNatClampNeg) ^^^ (-1 : Int32))) ||| (ab_i h q5 i1.toNatClampNeg))) fun h7 =>
    ((ab_r h7 t0 19)).bind fun q9 =>
    if ab_in i1 (ab_shp q9).2 = true then
    ((f_X12_backOf t0 (ab_i h7 q9 i1.toNatClampNeg) h7).bind fun w11 =>
    ab_let (ab_ip h7 t0 27 ((ab_i h7 t0 27) + w11)) fun h12 =>
    if (ab_i h12 t0 27) ≤ 9999 then (ab_let (ab_ip h12 t0 27 (ab_i h12 t0 27)) fun h14 =>
    ((ab_r h14 t0 22)).bind fun q16 =>
    if ab_in i1 (ab_shp q16).2 = true then
    (ab_let (ab_ip h14 q16 i1.toNatClampNeg i2) fun h18 =>
    ab_let (ab_ip h18 t0 29 ((ab_i h18 t0 29) + (1 : Int32))) fun h19 =>
    some h19) else none)
    else (ab_let (ab_ip h12 t0 27 9999) fun h20 =>
    ((ab_r h20 t0 22)).bind fun q22 =>
    if ab_in i1 (ab_shp q22).2 = true then
    (ab_let (ab_ip h20 q22 i1.toNatClampNeg i2) fun h24 =>
    ab_let (ab_ip h24 t0 29 ((ab_i h24 t0 29) + (1 : Int32))) fun h25 =>
    some h25) else none)) else none) else none) else none
def f_X12_falls_l15 (k2 : Int32 → ab_HP → Option ab_HP) (t0 : Nat) : Nat → Int32 → Int32 → ab_HP → Option ab_HP
  | 0, _, _, _ => none
  | n + 1, i1, i2, h =>
    if i2 < 0 then (k2 i1 h)
    else ((f_X12_holds t0 i2 h).bind fun w3 =>
    if w3 = 0 then (f_X12_falls_l15 k2 t0 n i1 (i2 + (-1 : Int32)) h)
    else (((ab_r h t0 19)).bind fun q7 =>
    if ab_in i2 (ab_shp q7).2 = true then
    ((f_X12_get t0 (ab_i h q7 i2.toNatClampNeg) 1 h).bind fun w9 =>
    if (w9 &&& ((ab_i h t0 26) ^^^ (-1 : Int32))) = 0 then (f_X12_falls_l15 k2 t0 n i1 (i2 + (-1 : Int32)) h)
    else ((f_X12_undoes t0 i2 5 h).bind fun w11 =>
    f_X12_falls_l15 k2 t0 n 1 (i2 + (-1 : Int32)) w11)) else none))
def f_X12_falls_l2 (t0 : Nat) : Nat → Int32 → ab_HP → Option ab_HP
  | 0, _, _ => none
  | n + 1, i1, h =>
    if i1 = 0 then (some h)
    else (f_X12_falls_l15 (f_X12_falls_l2 t0 n) t0 1000 0 ((ab_i h t0 24) - (1 : Int32)) h)
def f_X12_falls (t0 : Nat) (h : ab_HP) : Option ab_HP :=
    f_X12_falls_l2 t0 1000 1 h
def f_X12_oddYear_b52 (k7 : Int32 → ab_HP → Option ab_HP) (t0 : Nat) (i1 : Int32) (h : ab_HP) : Option ab_HP :=
    (f_X12_undoes t0 i1 1 h).bind fun w17 =>
    ((ab_r w17 t0 0)).bind fun q19 =>
    if ab_in 3 (ab_shp q19).2 = true then
    (if (ab_i w17 q19 (3 : Int32).toNatClampNeg) = 0 then ((f_X12_falls t0 w17).bind fun w22 =>
    k7 (i1 + (-1 : Int32)) w22)
    else (k7 (i1 + (-1 : Int32)) w17)) else none
def f_X12_oddYear_l7 (t0 : Nat) : Nat → Int32 → ab_HP → Option ab_HP
  | 0, _, _ => none
  | n + 1, i1, h =>
    if i1 < 0 then (some h)
    else (((ab_r h t0 22)).bind fun q3 =>
    if ab_in i1 (ab_shp q3).2 = true then
    (if (ab_i h q3 i1.toNatClampNeg) = 1 then (((ab_r h t0 0)).bind fun q7 =>
    if ab_in 3 (ab_shp q7).2 = true then
    (if (ab_i h q7 (3 : Int32).toNatClampNeg) = 1 then ((f_X12_isHeld t0 i1 h).bind fun w10 =>
    if w10 = 0 then (f_X12_oddYear_b52 (f_X12_oddYear_l7 t0 n) t0 i1 h)
    else (((ab_r h t0 22)).bind fun q14 =>
    if ab_in i1 (ab_shp q14).2 = true then
    (ab_let (ab_ip h q14 i1.toNatClampNeg 4) fun h16 =>
    f_X12_oddYear_l7 t0 n (i1 + (-1 : Int32)) h16) else none))
    else (f_X12_oddYear_b52 (f_X12_oddYear_l7 t0 n) t0 i1 h)) else none)
    else (f_X12_oddYear_l7 t0 n (i1 + (-1 : Int32)) h)) else none)
def f_X12_oddYear (t0 : Nat) (h : ab_HP) : Option ab_HP :=
    f_X12_oddYear_l7 t0 1000 ((ab_i h t0 24) - (1 : Int32)) h
def f_X12_pairOf (t0 : Nat) (h : ab_HP) : Option ab_HP :=
    (f_X12_evenYear t0 h).bind fun w1 =>
    (f_X12_oddYear t0 w1).bind fun w2 =>
    some w2
def f_X12_standing_l4 (t0 : Nat) : Nat → Int32 → Int32 → ab_HP → Option Int32
  | 0, _, _, _ => none
  | n + 1, i1, i2, h =>
    if (ab_i h t0 24) ≤ i2 then (some i1)
    else (((ab_r h t0 22)).bind fun q3 =>
    if ab_in i2 (ab_shp q3).2 = true then
    (if (ab_i h q3 i2.toNatClampNeg) = 2 then (f_X12_standing_l4 t0 n (i1 + (1 : Int32)) (i2 + (1 : Int32)) h)
    else (((ab_r h t0 22)).bind fun q7 =>
    if ab_in i2 (ab_shp q7).2 = true then
    (if (ab_i h q7 i2.toNatClampNeg) = 3 then (f_X12_standing_l4 t0 n (i1 + (1 : Int32)) (i2 + (1 : Int32)) h)
    else (((ab_r h t0 22)).bind fun q11 =>
    if ab_in i2 (ab_shp q11).2 = true then
    (if (ab_i h q11 i2.toNatClampNeg) = 4 then (f_X12_standing_l4 t0 n (i1 + (1 : Int32)) (i2 + (1 : Int32)) h)
    else (f_X12_standing_l4 t0 n (i1 + (0 : Int32)) (i2 + (1 : Int32)) h)) else none)) else none)) else none)
def f_X12_standing (t0 : Nat) (h : ab_HP) : Option Int32 :=
    f_X12_standing_l4 t0 1000 0 0 h
def f_X12_pair (t0 : Nat) (i1 : Int32) (i2 : Int32) (h : ab_HP) : Option (Int32 × ab_HP) :=
    (f_X12_isShelf i1 h).bind fun w1 =>
    if w1 = 0 then (some ((-1), h))
    else ((f_X12_areNails i2 h).bind fun w4 =>
    if w4 = 0 then (some ((-1), h))
    else ((f_X12_wrongList t0 i1 h).bind fun w7 =>
    if w7 = 0 then ((f_X12_lays t0 i1 i2 h).bind fun w9 =>
    (f_X12_pairOf t0 w9).bind fun w10 =>
    ((ab_r w10 t0 0)).bind fun q12 =>
    if ab_in 0 (ab_shp q12).2 = true then
    (ab_let (ab_ip w10 q12 (0 : Int32).toNatClampNeg (ab_i w10 t0 26)) fun h14 =>
    ((ab_r h14 t0 0)).bind fun q16 =>
    if ab_in 1 (ab_shp q16).2 = true then
    (ab_let (ab_ip h14 q16 (1 : Int32).toNatClampNeg (ab_i h14 t0 27)) fun h18 =>
    ((ab_r h18 t0 0)).bind fun q20 =>
    if ab_in 2 (ab_shp q20).2 = true then
    (if ab_in 2 (ab_shp q20).2 = true then
    (ab_let (ab_ip h18 q20 (2 : Int32).toNatClampNeg ((ab_i h18 q20 (2 : Int32).toNatClampNeg) + (2 : Int32))) fun h23 =>
    (f_X12_standing t0 h23).bind fun w24 =>
    some (w24, h23)) else none) else none) else none) else none)
    else (some (w7, h))))
def f_X12_even_l57 (t0 : Nat) : Nat → Int32 → Int32 → ab_HP → Option (Int32 × ab_HP)
  | 0, _, _, _ => none
  | n + 1, i3, i4, h =>
    if (ab_i h t0 24) ≤ i4 then (some (i3, h))
    else (((ab_r h t0 22)).bind fun q20 =>
    if ab_in i4 (ab_shp q20).2 = true then
    (if (ab_i h q20 i4.toNatClampNeg) = 0 then (f_X12_even_l57 t0 n (i3 + (0 : Int32)) (i4 + (1 : Int32)) h)
    else (f_X12_even_l57 t0 n (i3 + (1 : Int32)) (i4 + (1 : Int32)) h)) else none)
def f_X12_even (t0 : Nat) (i1 : Int32) (h : ab_HP) : Option (Int32 × ab_HP) :=
    (f_X12_wrongList t0 i1 h).bind fun w1 =>
    if w1 = 0 then ((f_X12_lays t0 i1 0 h).bind fun w3 =>
    (f_X12_evenYear t0 w3).bind fun w4 =>
    ((ab_r w4 t0 0)).bind fun q6 =>
    if ab_in 0 (ab_shp q6).2 = true then
    (ab_let (ab_ip w4 q6 (0 : Int32).toNatClampNeg (ab_i w4 t0 26)) fun h8 =>
    ((ab_r h8 t0 0)).bind fun q10 =>
    if ab_in 1 (ab_shp q10).2 = true then
    (ab_let (ab_ip h8 q10 (1 : Int32).toNatClampNeg (ab_i h8 t0 27)) fun h12 =>
    ((ab_r h12 t0 0)).bind fun q14 =>
    if ab_in 2 (ab_shp q14).2 = true then
    (if ab_in 2 (ab_shp q14).2 = true then
    (ab_let (ab_ip h12 q14 (2 : Int32).toNatClampNeg ((ab_i h12 q14 (2 : Int32).toNatClampNeg) + (1 : Int32))) fun h17 =>
    f_X12_even_l57 t0 1000 0 0 h17) else none) else none) else none) else none)
    else (some (w1, h))
def f_X12_isMark (i0 : Int32) (h : ab_HP) : Option Int32 :=
    (f_X12_isIn (i0.toInt64) 0 9 h).bind fun w1 =>
    some w1
def f_X12_lasts (t0 : Nat) (i1 : Int32) (i2 : Int32) (i3 : Int32) (h : ab_HP) : Option (Int32 × ab_HP) :=
    (f_X12_isShelf i1 h).bind fun w1 =>
    if w1 = 0 then (some ((-1), h))
    else ((f_X12_areNails i2 h).bind fun w4 =>
    if w4 = 0 then (some ((-1), h))
    else ((f_X12_isMark i3 h).bind fun w7 =>
    if w7 = 0 then (some ((-1), h))
    else ((f_X12_wrongList t0 i1 h).bind fun w10 =>
    if w10 = 0 then ((f_X12_lays t0 i1 i2 h).bind fun w12 =>
    (f_X12_pairOf t0 w12).bind fun w13 =>
    some ((((ab_i w13 t0 26) >>> (i3 &&& 31)) &&& (1 : Int32)), w13))
    else (some (w10, h)))))
def f_X12_why (t0 : Nat) (i1 : Int32) (i2 : Int32) (i3 : Int32) (h : ab_HP) : Option (Int32 × ab_HP) :=
    (f_X12_isShelf i1 h).bind fun w1 =>
    if w1 = 0 then (some ((-1), h))
    else ((f_X12_areNails i2 h).bind fun w4 =>
    if w4 = 0 then (some ((-1), h))
    else ((f_X12_wrongList t0 i1 h).bind fun w7 =>
    if w7 = 0 then (((ab_r h t0 5)).bind fun q10 =>
    if ab_in i1 (ab_shp q10).2 = true then
    ((f_X12_isIn (i3.toInt64) 0 (((ab_i h q10 i1.toNatClampNeg) - (1 : Int32)).toInt64) h).bind fun w12 =>
    if w12 = 0 then (some ((-13), h))
    else ((f_X12_lays t0 i1 i2 h).bind fun w15 =>
    (f_X12_pairOf t0 w15).bind fun w16 =>
    ((ab_r w16 t0 22)).bind fun q18 =>
    if ab_in i3 (ab_shp q18).2 = true then
    (some ((ab_i w16 q18 i3.toNatClampNeg), w16)) else none)) else none)
    else (some (w7, h))))
def f_X12_behind (t0 : Nat) (i1 : Int32) (i2 : Int32) (i3 : Int32) (h : ab_HP) : Option (Int32 × ab_HP) :=
    (f_X12_isShelf i1 h).bind fun w1 =>
    if w1 = 0 then (some ((-1), h))
    else ((f_X12_areNails i2 h).bind fun w4 =>
    if w4 = 0 then (some ((-1), h))
    else ((f_X12_isIn (i3.toInt64) 0 3 h).bind fun w7 =>
    if w7 = 0 then (some ((-1), h))
    else ((f_X12_wrongList t0 i1 h).bind fun w10 =>
    if w10 = 0 then ((f_X12_lays t0 i1 i2 h).bind fun w12 =>
    (f_X12_pairOf t0 w12).bind fun w13 =>
    if i3 = 0 then (some ((ab_i w13 t0 26), w13))
    else (if i3 = 1 then (some ((ab_i w13 t0 27), w13))
    else (if i3 = 2 then (some ((ab_i w13 t0 29), w13))
    else (some ((ab_i w13 t0 28), w13)))))
    else (some (w10, h)))))
def f_X12_bits_l4  : Nat → Int32 → Int32 → ab_HP → Option Int32
  | 0, _, _, _ => none
  | n + 1, i1, i2, h =>
    if i2 ≤ 0 then (some i1)
    else (f_X12_bits_l4 n (i1 + (i2 &&& (1 : Int32))) (i2 >>> ((1 : Int32) &&& 31)) h)
def f_X12_bits (i0 : Int32) (h : ab_HP) : Option Int32 :=
    f_X12_bits_l4 1000 0 i0 h
def f_X12_finds_b94 (k8 : Int32 → Int32 → ab_HP → Option (Int32 × ab_HP)) (t0 : Nat) (i1 : Int32) (i2 : Int32) (h : ab_HP) : Option (Int32 × ab_HP) :=
    ab_let (ab_ip h t0 30 i2) fun h16 =>
    ab_let (ab_ip h16 t0 31 (ab_i h16 t0 28)) fun h17 =>
    k8 i1 (i2 + (1 : Int32)) h17
def f_X12_finds_l8 (t0 : Nat) : Nat → Int32 → Int32 → ab_HP → Option (Int32 × ab_HP)
  | 0, _, _, _ => none
  | n + 1, i1, i2, h =>
    if ((1 : Int32) <<< ((ab_i h t0 24) &&& 31)) ≤ i2 then (if (ab_i h t0 30) < 0 then (some (0, h))
    else (some (1, h)))
    else (ab_let (ab_ip h t0 25 i2) fun h4 =>
    (f_X12_begins t0 h4).bind fun w5 =>
    (f_X12_pairOf t0 w5).bind fun w6 =>
    if (i1 &&& ((ab_i w6 t0 26) ^^^ (-1 : Int32))) = 0 then (if (ab_i w6 t0 30) < 0 then (f_X12_finds_b94 (f_X12_finds_l8 t0 n) t0 i1 i2 w6)
    else ((f_X12_bits i2 w6).bind fun w9 =>
    (f_X12_bits (ab_i w6 t0 30) w6).bind fun w10 =>
    if w10 < w9 then (f_X12_finds_l8 t0 n i1 (i2 + (1 : Int32)) w6)
    else ((f_X12_bits i2 w6).bind fun w12 =>
    (f_X12_bits (ab_i w6 t0 30) w6).bind fun w13 =>
    if w12 = w13 then (if (ab_i w6 t0 28) < (ab_i w6 t0 31) then (f_X12_finds_b94 (f_X12_finds_l8 t0 n) t0 i1 i2 w6)
    else (f_X12_finds_l8 t0 n i1 (i2 + (1 : Int32)) w6))
    else (f_X12_finds_b94 (f_X12_finds_l8 t0 n) t0 i1 i2 w6))))
    else (f_X12_finds_l8 t0 n i1 (i2 + (1 : Int32)) w6))
def f_X12_finds (t0 : Nat) (i1 : Int32) (h : ab_HP) : Option (Int32 × ab_HP) :=
    ab_let (ab_ip h t0 30 (-4)) fun h1 =>
    f_X12_finds_l8 t0 1000 i1 0 h1
def f_X12_least (t0 : Nat) (i1 : Int32) (i2 : Int32) (i3 : Int32) (h : ab_HP) : Option (Int32 × ab_HP) :=
    (f_X12_isShelf i1 h).bind fun w1 =>
    if w1 = 0 then (some ((-1), h))
    else ((f_X12_isIn (i2.toInt64) 0 1023 h).bind fun w4 =>
    if w4 = 0 then (some ((-1), h))
    else ((f_X12_isIn (i3.toInt64) 0 2 h).bind fun w7 =>
    if w7 = 0 then (some ((-1), h))
    else ((f_X12_wrongList t0 i1 h).bind fun w10 =>
    if w10 = 0 then ((f_X12_lays t0 i1 0 h).bind fun w12 =>
    (f_X12_finds t0 i2 w12).bind fun w13 =>
    if w13.1 = 0 then (some ((-4), w13.2))
    else (if i3 = 0 then ((f_X12_bits (ab_i w13.2 t0 30) w13.2).bind fun w18 =>
    some (w18, w13.2))
    else (if i3 = 1 then (some ((ab_i w13.2 t0 31), w13.2))
    else (some ((ab_i w13.2 t0 30), w13.2)))))
    else (some (w10, h)))))
def f_X12_lines_l141 (self : Nat → Int32 → Int32 → Int32 → Int32 → ab_HP → Option ab_HP) (t0 : Nat) : Nat → Int32 → Int32 → Int32 → Int32 → Int32 → Int32 → ab_HP → Option ab_HP
  | 0, _, _, _, _, _, _, _ => none
  | n + 1, i1, i2, i3, i4, i5, i6, h =>
    if i5 ≤ i6 then (some h)
    else (if ((i3 >>> (i6 &&& 31)) &&& (1 : Int32)) = 1 then (f_X12_lines_l141 self t0 n i1 i2 i3 i4 i5 (i6 + (1 : Int32)) h)
    else (((ab_r h t0 32)).bind fun q8 =>
    if ab_in i2 (ab_shp q8).2 = true then
    (ab_let (ab_ip h q8 i2.toNatClampNeg i6) fun h10 =>
    (self t0 i1 (i2 + (1 : Int32)) (i3 ||| ((1 : Int32) <<< (i6 &&& 31))) i4 h10).bind fun w11 =>
    f_X12_lines_l141 self t0 n i1 i2 i3 i4 i5 (i6 + (1 : Int32)) w11) else none))
def f_X12_lines_l107 (self : Nat → Int32 → Int32 → Int32 → Int32 → ab_HP → Option ab_HP) (t0 : Nat) : Nat → Int32 → ab_HP → Option ab_HP
  | 0, _, _ => none
  | n + 1, i6, h =>
    if i6 < 0 then (some h)
    else (((ab_r h t0 32)).bind fun q34 =>
    if ab_in i6 (ab_shp q34).2 = true then
    (ab_let (ab_ip h t0 33 (((10 : Int32) * (ab_i h t0 33)) + (ab_i h q34 i6.toNatClampNeg))) fun h36 =>
    f_X12_lines_l107 self t0 n (i6 + (-1 : Int32)) h36) else none)
def f_X12_lines_b85 (self : Nat → Int32 → Int32 → Int32 → Int32 → ab_HP → Option ab_HP) (t0 : Nat) (i5 : Int32) (h : ab_HP) : Option ab_HP :=
    (f_X12_bits (ab_i h t0 30) h).bind fun w29 =>
    ab_let (ab_ip h t0 34 w29) fun h30 =>
    ab_let (ab_ip h30 t0 33 0) fun h31 =>
    f_X12_lines_l107 self t0 1000 (i5 - (1 : Int32)) h31
def f_X12_lines_l17 (self : Nat → Int32 → Int32 → Int32 → Int32 → ab_HP → Option ab_HP) (t0 : Nat) : Nat → Int32 → Int32 → Int32 → Int32 → ab_HP → Option ab_HP
  | 0, _, _, _, _, _ => none
  | n + 1, i1, i4, i5, i6, h =>
    if i5 ≤ i6 then ((f_X12_finds t0 i4 h).bind fun w13 =>
    if w13.1 = 0 then (some w13.2)
    else (if (ab_i w13.2 t0 34) < 0 then (f_X12_lines_b85 self t0 i5 w13.2)
    else ((f_X12_bits (ab_i w13.2 t0 30) w13.2).bind fun w17 =>
    if w17 < (ab_i w13.2 t0 34) then (f_X12_lines_b85 self t0 i5 w13.2)
    else (some w13.2))))
    else (((ab_r h t0 32)).bind fun q22 =>
    if ab_in i6 (ab_shp q22).2 = true then
    (((ab_r h t0 6)).bind fun q24 =>
    if ab_in (((100 : Int32) * i1) + (ab_i h q22 i6.toNatClampNeg)) (ab_shp q24).2 = true then
    (((ab_r h t0 19)).bind fun q26 =>
    if ab_in i6 (ab_shp q26).2 = true then
    (ab_let (ab_ip h q26 i6.toNatClampNeg (ab_i h q24 (((100 : Int32) * i1) + (ab_i h q22 i6.toNatClampNeg)).toNatClampNeg)) fun h28 =>
    f_X12_lines_l17 self t0 n i1 i4 i5 (i6 + (1 : Int32)) h28) else none) else none) else none)
def f_X12_lines (self : Nat → Int32 → Int32 → Int32 → Int32 → ab_HP → Option ab_HP) (t0 : Nat) (i1 : Int32) (i2 : Int32) (i3 : Int32) (i4 : Int32) (h : ab_HP) : Option ab_HP :=
    ((ab_r h t0 5)).bind fun q2 =>
    if ab_in i1 (ab_shp q2).2 = true then
    (if i2 = (ab_i h q2 i1.toNatClampNeg) then (f_X12_lines_l17 self t0 1000 i1 i4 (ab_i h q2 i1.toNatClampNeg) 0 h)
    else (f_X12_lines_l141 self t0 1000 i1 i2 i3 i4 (ab_i h q2 i1.toNatClampNeg) 0 h)) else none
def f_X12_lines_rec : Nat → Nat → Int32 → Int32 → Int32 → Int32 → ab_HP → Option ab_HP
  | 0 => fun _ _ _ _ _ _ => none
  | n + 1 => f_X12_lines (f_X12_lines_rec n)
def f_X12_free_b57 (t0 : Nat) (i1 : Int32) (i2 : Int32) (i3 : Int32) (i4 : Int32) (h : ab_HP) : Option (Int32 × ab_HP) :=
    if i4 = 0 then ((f_X12_lays t0 i1 0 h).bind fun w17 =>
    ab_let (ab_ip w17 t0 34 (-4)) fun h18 =>
    (f_X12_lines_rec 7 t0 i1 0 0 i2 h18).bind fun w19 =>
    if (0 : Int32) ≤ (ab_i w19 t0 34) then (if i3 = 0 then (some ((ab_i w19 t0 33), w19))
    else (some ((ab_i w19 t0 34), w19)))
    else (some ((-4), w19)))
    else (some (i4, h))
def f_X12_free (t0 : Nat) (i1 : Int32) (i2 : Int32) (i3 : Int32) (h : ab_HP) : Option (Int32 × ab_HP) :=
    (f_X12_isShelf i1 h).bind fun w1 =>
    if w1 = 0 then (some ((-1), h))
    else ((f_X12_isIn (i2.toInt64) 0 1023 h).bind fun w4 =>
    if w4 = 0 then (some ((-1), h))
    else ((f_X12_isIn (i3.toInt64) 0 1 h).bind fun w7 =>
    if w7 = 0 then (some ((-1), h))
    else ((f_X12_wrongList t0 i1 h).bind fun w10 =>
    if w10 = 0 then (((ab_r h t0 5)).bind fun q13 =>
    if ab_in i1 (ab_shp q13).2 = true then
    (if (ab_i h q13 i1.toNatClampNeg) ≤ 5 then (f_X12_free_b57 t0 i1 i2 i3 w10 h)
    else (f_X12_free_b57 t0 i1 i2 i3 (-13) h)) else none)
    else (f_X12_free_b57 t0 i1 i2 i3 w10 h))))
def f_X12_worthOf_l5 (t0 : Nat) : Nat → Int32 → Int64 → Int32 → ab_HP → Option Int64
  | 0, _, _, _, _ => none
  | n + 1, i1, i2, i4, h =>
    if 10 ≤ i4 then (some i2)
    else (if ((i1 >>> (i4 &&& 31)) &&& (1 : Int32)) = 1 then (((ab_r h t0 6)).bind fun q4 =>
    if ab_in (((100 : Int32) * (ab_i h t0 38)) + i4) (ab_shp q4).2 = true then
    (ab_let (i2 + ((ab_i h q4 (((100 : Int32) * (ab_i h t0 38)) + i4).toNatClampNeg).toInt64)) fun v6 =>
    f_X12_worthOf_l5 t0 n i1 v6 (i4 + (1 : Int32)) h) else none)
    else (f_X12_worthOf_l5 t0 n i1 (i2 + (0 : Int64)) (i4 + (1 : Int32)) h))
def f_X12_worthOf (t0 : Nat) (i1 : Int32) (h : ab_HP) : Option Int64 :=
    f_X12_worthOf_l5 t0 1000 i1 0 0 h
def f_X12_tries_b152 (k3 : Int32 → Int32 → Int32 → Int32 → Int32 → Int32 → Int32 → Int32 → ab_HP → Option ab_HP) (self : Nat → Int32 → Int32 → Int32 → Int32 → ab_HP → Option ab_HP) (t0 : Nat) (i1 : Int32) (i2 : Int32) (i3 : Int32) (i4 : Int32) (i5 : Int32) (i6 : Int32) (i7 : Int32) (i8 : Int32) (i9 : Int32) (i10 : Int64) (h : ab_HP) : Option ab_HP :=
    ab_let (ab_ip h t0 35 1) fun h48 =>
    ab_let (ab_lp h48 t0 36 i10) fun h49 =>
    ab_let (ab_ip h49 t0 37 i9) fun h50 =>
    k3 i1 i2 i3 i4 i5 i6 i7 (i8 + (1 : Int32)) h50
def f_X12_tries_l3 (self : Nat → Int32 → Int32 → Int32 → Int32 → ab_HP → Option ab_HP) (t0 : Nat) : Nat → Int32 → Int32 → Int32 → Int32 → Int32 → Int32 → Int32 → Int32 → ab_HP → Option ab_HP
  | 0, _, _, _, _, _, _, _, _, _ => none
  | n + 1, i1, i2, i3, i4, i5, i6, i7, i8, h =>
    if ((1 : Int32) <<< (i3 &&& 31)) ≤ i8 then (some h)
    else (ab_let (ab_ip h t0 24 i3) fun h2 =>
    ((ab_r h2 t0 19)).bind fun q4 =>
    if ab_in 0 (ab_shp q4).2 = true then
    (ab_let (ab_ip h2 q4 (0 : Int32).toNatClampNeg i4) fun h6 =>
    ((ab_r h6 t0 19)).bind fun q8 =>
    if ab_in 1 (ab_shp q8).2 = true then
    (ab_let (ab_ip h6 q8 (1 : Int32).toNatClampNeg i5) fun h10 =>
    ab_let (ab_ip h10 t0 25 i8) fun h11 =>
    ab_let (ab_ip h11 t0 26 i6) fun h12 =>
    ab_let (ab_ip h12 t0 27 i7) fun h13 =>
    (f_X12_pairOf t0 h13).bind fun w14 =>
    if i2 < 0 then (if i3 ≤ 0 then (if i3 ≤ 1 then (ab_let ((((100 : Int32) * i8) + ((10 : Int32) * (9 : Int32))) + (9 : Int32)) fun v18 =>
    if i1 ≤ 1 then ((f_X12_worthOf t0 (ab_i w14 t0 26) w14).bind fun w20 =>
    if (ab_i w14 t0 35) = 0 then (f_X12_tries_b152 (f_X12_tries_l3 self t0 n) self t0 i1 i2 i3 i4 i5 i6 i7 i8 v18 w20 w14)
    else (if (0 : Int32) < (lg_cmp w20 (ab_l w14 t0 36)) then (f_X12_tries_b152 (f_X12_tries_l3 self t0 n) self t0 i1 i2 i3 i4 i5 i6 i7 i8 v18 w20 w14)
    else (f_X12_tries_l3 self t0 n i1 i2 i3 i4 i5 i6 i7 (i8 + (1 : Int32)) w14)))
    else ((self t0 (i1 - (1 : Int32)) v18 (ab_i w14 t0 26) (ab_i w14 t0 27) w14).bind fun w23 =>
    f_X12_tries_l3 self t0 n i1 i2 i3 i4 i5 i6 i7 (i8 + (1 : Int32)) w23))
    else (ab_let ((((100 : Int32) * i8) + ((10 : Int32) * (9 : Int32))) + i5) fun v24 =>
    if i1 ≤ 1 then ((f_X12_worthOf t0 (ab_i w14 t0 26) w14).bind fun w26 =>
    if (ab_i w14 t0 35) = 0 then (f_X12_tries_b152 (f_X12_tries_l3 self t0 n) self t0 i1 i2 i3 i4 i5 i6 i7 i8 v24 w26 w14)
    else (if (0 : Int32) < (lg_cmp w26 (ab_l w14 t0 36)) then (f_X12_tries_b152 (f_X12_tries_l3 self t0 n) self t0 i1 i2 i3 i4 i5 i6 i7 i8 v24 w26 w14)
    else (f_X12_tries_l3 self t0 n i1 i2 i3 i4 i5 i6 i7 (i8 + (1 : Int32)) w14)))
    else ((self t0 (i1 - (1 : Int32)) v24 (ab_i w14 t0 26) (ab_i w14 t0 27) w14).bind fun w29 =>
    f_X12_tries_l3 self t0 n i1 i2 i3 i4 i5 i6 i7 (i8 + (1 : Int32)) w29)))
    else (if i3 ≤ 1 then (ab_let ((((100 : Int32) * i8) + ((10 : Int32) * i4)) + (9 : Int32)) fun v31 =>
    if i1 ≤ 1 then ((f_X12_worthOf t0 (ab_i w14 t0 26) w14).bind fun w33 =>
    if (ab_i w14 t0 35) = 0 then (f_X12_tries_b152 (f_X12_tries_l3 self t0 n) self t0 i1 i2 i3 i4 i5 i6 i7 i8 v31 w33 w14)
    else (if (0 : Int32) < (lg_cmp w33 (ab_l w14 t0 36)) then (f_X12_tries_b152 (f_X12_tries_l3 self t0 n) self t0 i1 i2 i3 i4 i5 i6 i7 i8 v31 w33 w14)
    else (f_X12_tries_l3 self t0 n i1 i2 i3 i4 i5 i6 i7 (i8 + (1 : Int32)) w14)))
    else ((self t0 (i1 - (1 : Int32)) v31 (ab_i w14 t0 26) (ab_i w14 t0 27) w14).bind fun w36 =>
    f_X12_tries_l3 self t0 n i1 i2 i3 i4 i5 i6 i7 (i8 + (1 : Int32)) w36))
    else (ab_let ((((100 : Int32) * i8) + ((10 : Int32) * i4)) + i5) fun v37 =>
    if i1 ≤ 1 then ((f_X12_worthOf t0 (ab_i w14 t0 26) w14).bind fun w39 =>
    if (ab_i w14 t0 35) = 0 then (f_X12_tries_b152 (f_X12_tries_l3 self t0 n) self t0 i1 i2 i3 i4 i5 i6 i7 i8 v37 w39 w14)
    else (if (0 : Int32) < (lg_cmp w39 (ab_l w14 t0 36)) then (f_X12_tries_b152 (f_X12_tries_l3 self t0 n) self t0 i1 i2 i3 i4 i5 i6 i7 i8 v37 w39 w14)
    else (f_X12_tries_l3 self t0 n i1 i2 i3 i4 i5 i6 i7 (i8 + (1 : Int32)) w14)))
    else ((self t0 (i1 - (1 : Int32)) v37 (ab_i w14 t0 26) (ab_i w14 t0 27) w14).bind fun w42 =>
    f_X12_tries_l3 self t0 n i1 i2 i3 i4 i5 i6 i7 (i8 + (1 : Int32)) w42))))
    else (if i1 ≤ 1 then ((f_X12_worthOf t0 (ab_i w14 t0 26) w14).bind fun w44 =>
    if (ab_i w14 t0 35) = 0 then (f_X12_tries_b152 (f_X12_tries_l3 self t0 n) self t0 i1 i2 i3 i4 i5 i6 i7 i8 i2 w44 w14)
    else (if (0 : Int32) < (lg_cmp w44 (ab_l w14 t0 36)) then (f_X12_tries_b152 (f_X12_tries_l3 self t0 n) self t0 i1 i2 i3 i4 i5 i6 i7 i8 i2 w44 w14)
    else (f_X12_tries_l3 self t0 n i1 i2 i3 i4 i5 i6 i7 (i8 + (1 : Int32)) w14)))
    else ((self t0 (i1 - (1 : Int32)) i2 (ab_i w14 t0 26) (ab_i w14 t0 27) w14).bind fun w47 =>
    f_X12_tries_l3 self t0 n i1 i2 i3 i4 i5 i6 i7 (i8 + (1 : Int32)) w47))) else none) else none)
def f_X12_tries (self : Nat → Int32 → Int32 → Int32 → Int32 → ab_HP → Option ab_HP) (t0 : Nat) (i1 : Int32) (i2 : Int32) (i3 : Int32) (i4 : Int32) (i5 : Int32) (i6 : Int32) (i7 : Int32) (h : ab_HP) : Option ab_HP :=
    f_X12_tries_l3 self t0 1000 i1 i2 i3 i4 i5 i6 i7 0 h
def f_X12_plans_l64 (k49 : Int32 → Int32 → Int32 → Int32 → Int32 → ab_HP → Option ab_HP) (self : Nat → Int32 → Int32 → Int32 → Int32 → ab_HP → Option ab_HP) (t0 : Nat) : Nat → Int32 → Int32 → Int32 → Int32 → Int32 → Int32 → ab_HP → Option ab_HP
  | 0, _, _, _, _, _, _, _ => none
  | n + 1, i1, i2, i3, i4, i5, i6, h =>
    ((ab_r h t0 0)).bind fun q12 =>
    if ab_in 6 (ab_shp q12).2 = true then
    (if (ab_i h q12 (6 : Int32).toNatClampNeg) ≤ i6 then (k49 i1 i2 i3 i4 (i5 + (1 : Int32)) h)
    else (if i5 = i6 then (f_X12_plans_l64 k49 self t0 n i1 i2 i3 i4 i5 (i6 + (1 : Int32)) h)
    else ((f_X12_tries self t0 i1 i2 2 i5 i6 i3 i4 h).bind fun w16 =>
    f_X12_plans_l64 k49 self t0 n i1 i2 i3 i4 i5 (i6 + (1 : Int32)) w16))) else none
def f_X12_plans_l49 (self : Nat → Int32 → Int32 → Int32 → Int32 → ab_HP → Option ab_HP) (t0 : Nat) : Nat → Int32 → Int32 → Int32 → Int32 → Int32 → ab_HP → Option ab_HP
  | 0, _, _, _, _, _, _ => none
  | n + 1, i1, i2, i3, i4, i5, h =>
    ((ab_r h t0 0)).bind fun q8 =>
    if ab_in 6 (ab_shp q8).2 = true then
    (if (ab_i h q8 (6 : Int32).toNatClampNeg) ≤ i5 then (some h)
    else (f_X12_plans_l64 (f_X12_plans_l49 self t0 n) self t0 1000 i1 i2 i3 i4 i5 0 h)) else none
def f_X12_plans_l15 (self : Nat → Int32 → Int32 → Int32 → Int32 → ab_HP → Option ab_HP) (t0 : Nat) : Nat → Int32 → Int32 → Int32 → Int32 → Int32 → ab_HP → Option ab_HP
  | 0, _, _, _, _, _, _ => none
  | n + 1, i1, i2, i3, i4, i5, h =>
    ((ab_r h t0 0)).bind fun q3 =>
    if ab_in 6 (ab_shp q3).2 = true then
    (if (ab_i h q3 (6 : Int32).toNatClampNeg) ≤ i5 then (f_X12_plans_l49 self t0 1000 i1 i2 i3 i4 0 h)
    else ((f_X12_tries self t0 i1 i2 1 i5 0 i3 i4 h).bind fun w6 =>
    f_X12_plans_l15 self t0 n i1 i2 i3 i4 (i5 + (1 : Int32)) w6)) else none
def f_X12_plans (self : Nat → Int32 → Int32 → Int32 → Int32 → ab_HP → Option ab_HP) (t0 : Nat) (i1 : Int32) (i2 : Int32) (i3 : Int32) (i4 : Int32) (h : ab_HP) : Option ab_HP :=
    (f_X12_tries self t0 i1 i2 0 0 0 i3 i4 h).bind fun w1 =>
    f_X12_plans_l15 self t0 1000 i1 i2 i3 i4 0 w1
def f_X12_plans_rec : Nat → Nat → Int32 → Int32 → Int32 → Int32 → ab_HP → Option ab_HP
  | 0 => fun _ _ _ _ _ _ => none
  | n + 1 => f_X12_plans (f_X12_plans_rec n)
def f_X12_plan_l71 (t0 : Nat) : Nat → Int32 → Int32 → Int32 → Int32 → ab_HP → Option (Int32 × ab_HP)
  | 0, _, _, _, _, _ => none
  | n + 1, i1, i2, i3, i5, h =>
    if 10 ≤ i5 then (ab_let (ab_ip h t0 38 i2) fun h17 =>
    ab_let (ab_ip h17 t0 35 0) fun h18 =>
    ((ab_r h18 t0 0)).bind fun q20 =>
    if ab_in 0 (ab_shp q20).2 = true then
    (((ab_r h18 t0 0)).bind fun q23 =>
    if ab_in 1 (ab_shp q23).2 = true then
    ((f_X12_plans_rec 3 t0 i1 (-4) (ab_i h18 q20 (0 : Int32).toNatClampNeg) (ab_i h18 q23 (1 : Int32).toNatClampNeg) h18).bind fun w25 =>
    if i3 = 0 then (some (((ab_l w25 t0 36).toInt32), w25))
    else (some ((ab_i w25 t0 37), w25))) else none) else none)
    else (((ab_r h t0 6)).bind fun q28 =>
    if ab_in (((100 : Int32) * i2) + i5) (ab_shp q28).2 = true then
    ((f_X12_isIn ((ab_i h q28 (((100 : Int32) * i2) + i5).toNatClampNeg).toInt64) (-999) 999 h).bind fun w30 =>
    if w30 = 0 then (some ((-1000000013), h))
    else (f_X12_plan_l71 t0 n i1 i2 i3 (i5 + (1 : Int32)) h)) else none)
def f_X12_plan (t0 : Nat) (i1 : Int32) (i2 : Int32) (i3 : Int32) (h : ab_HP) : Option (Int32 × ab_HP) :=
    (f_X12_isIn (i1.toInt64) 1 2 h).bind fun w1 =>
    if w1 = 0 then (some ((-1000000001), h))
    else ((f_X12_isShelf i2 h).bind fun w4 =>
    if w4 = 0 then (some ((-1000000001), h))
    else ((f_X12_isIn (i3.toInt64) 0 1 h).bind fun w7 =>
    if w7 = 0 then (some ((-1000000001), h))
    else ((f_X12_wrongRow t0 i2 (-1) h).bind fun w10 =>
    if w10 = 0 then (((ab_r h t0 5)).bind fun q13 =>
    if ab_in i2 (ab_shp q13).2 = true then
    (if (ab_i h q13 i2.toNatClampNeg) = 10 then (f_X12_plan_l71 t0 1000 i1 i2 i3 0 h)
    else (some ((-1000000013), h))) else none)
    else (some (((-1000000000 : Int32) + w10), h)))))
def f_X12_ever_l18 (k9 : Int32 → Int32 → ab_HP → Option Int32) (t0 : Nat) : Nat → Int32 → Int32 → Int32 → ab_HP → Option Int32
  | 0, _, _, _, _ => none
  | n + 1, i1, i3, i4, h =>
    ((ab_r h t0 0)).bind fun q6 =>
    if ab_in 6 (ab_shp q6).2 = true then
    (if (ab_i h q6 (6 : Int32).toNatClampNeg) ≤ i4 then (if i1 = i3 then (k9 i1 0 h)
    else (k9 i1 1 h))
    else ((f_X12_get t0 i4 0 h).bind fun w10 =>
    if w10 = 6 then (f_X12_ever_l18 k9 t0 n i1 i3 (i4 + (1 : Int32)) h)
    else ((f_X12_get t0 i4 1 h).bind fun w12 =>
    if (w12 &&& (i1 ^^^ (-1 : Int32))) = 0 then ((f_X12_marksBy t0 i4 i1 h).bind fun w14 =>
    f_X12_ever_l18 k9 t0 n w14 i3 (i4 + (1 : Int32)) h)
    else (f_X12_ever_l18 k9 t0 n i1 i3 (i4 + (1 : Int32)) h)))) else none
def f_X12_ever_l9 (t0 : Nat) : Nat → Int32 → Int32 → ab_HP → Option Int32
  | 0, _, _, _ => none
  | n + 1, i1, i2, h =>
    if i2 = 0 then (some i1)
    else (f_X12_ever_l18 (f_X12_ever_l9 t0 n) t0 1000 i1 i1 0 h)
def f_X12_ever (t0 : Nat) (h : ab_HP) : Option Int32 :=
    ((ab_r h t0 0)).bind fun q2 =>
    if ab_in 0 (ab_shp q2).2 = true then
    (f_X12_ever_l9 t0 1000 (ab_i h q2 (0 : Int32).toNatClampNeg) 1 h) else none
def f_X12_help_l4 (t0 : Nat) : Nat → Int32 → Int32 → ab_HP → Option Int32
  | 0, _, _, _ => none
  | n + 1, i1, i2, h =>
    ((ab_r h t0 0)).bind fun q2 =>
    if ab_in 6 (ab_shp q2).2 = true then
    (if (ab_i h q2 (6 : Int32).toNatClampNeg) ≤ i2 then (some i1)
    else ((f_X12_get t0 i2 0 h).bind fun w5 =>
    if w5 = 6 then (((ab_r h t0 0)).bind fun q8 =>
    if ab_in 0 (ab_shp q8).2 = true then
    (((ab_r h t0 0)).bind fun q11 =>
    if ab_in 1 (ab_shp q11).2 = true then
    ((f_X12_mayBy t0 i2 (ab_i h q8 (0 : Int32).toNatClampNeg) (ab_i h q11 (1 : Int32).toNatClampNeg) h).bind fun w13 =>
    if w13 = 0 then (f_X12_help_l4 t0 n i1 (i2 + (1 : Int32)) h)
    else (((ab_r h t0 0)).bind fun q17 =>
    if ab_in 0 (ab_shp q17).2 = true then
    ((f_X12_get t0 i2 2 h).bind fun w19 =>
    ab_let (i1 ||| ((ab_i h q17 (0 : Int32).toNatClampNeg) &&& ((1 : Int32) <<< (w19 &&& 31)))) fun v20 =>
    f_X12_help_l4 t0 n v20 (i2 + (1 : Int32)) h) else none)) else none) else none)
    else (f_X12_help_l4 t0 n i1 (i2 + (1 : Int32)) h))) else none
def f_X12_help (t0 : Nat) (h : ab_HP) : Option Int32 :=
    f_X12_help_l4 t0 1000 0 0 h
def f_X12_two_l224 (t0 : Nat) : Nat → Int32 → Int32 → Int32 → ab_HP → Option (Int32 × ab_HP)
  | 0, _, _, _, _ => none
  | n + 1, i5, i7, i8, h =>
    if (ab_i h t0 24) ≤ i8 then (some (i7, h))
    else (((ab_r h t0 39)).bind fun q27 =>
    if ab_in i8 (ab_shp q27).2 = true then
    (if (ab_i h q27 i8.toNatClampNeg) = i5 then ((f_X12_holds t0 i8 h).bind fun w30 =>
    if w30 = 0 then (((ab_r h t0 22)).bind fun q34 =>
    if ab_in i8 (ab_shp q34).2 = true then
    (if (ab_i h q34 i8.toNatClampNeg) = 4 then (f_X12_two_l224 t0 n i5 (i7 + (1 : Int32)) (i8 + (1 : Int32)) h)
    else (f_X12_two_l224 t0 n i5 (i7 + (0 : Int32)) (i8 + (1 : Int32)) h)) else none)
    else (f_X12_two_l224 t0 n i5 (i7 + (1 : Int32)) (i8 + (1 : Int32)) h))
    else (f_X12_two_l224 t0 n i5 (i7 + (0 : Int32)) (i8 + (1 : Int32)) h)) else none)
def f_X12_two_l92 (k82 : Int32 → Int32 → Int32 → Int32 → Int32 → Int32 → ab_HP → Option (Int32 × ab_HP)) (t0 : Nat) : Nat → Int32 → Int32 → Int32 → Int32 → Int32 → Int32 → Int32 → ab_HP → Option (Int32 × ab_HP)
  | 0, _, _, _, _, _, _, _, _ => none
  | n + 1, i1, i2, i3, i4, i5, i7, i8, h =>
    if 2 ≤ i8 then (k82 i1 i2 i3 i4 i5 (i7 + (1 : Int32)) h)
    else (if i8 = 0 then (((ab_r h t0 5)).bind fun q60 =>
    if ab_in i1 (ab_shp q60).2 = true then
    (if i7 < (ab_i h q60 i1.toNatClampNeg) then (((ab_r h t0 6)).bind fun q65 =>
    if ab_in (((100 : Int32) * i1) + i7) (ab_shp q65).2 = true then
    (((ab_r h t0 19)).bind fun q67 =>
    if ab_in (ab_i h t0 24) (ab_shp q67).2 = true then
    (ab_let (ab_ip h q67 (ab_i h t0 24).toNatClampNeg (ab_i h q65 (((100 : Int32) * i1) + i7).toNatClampNeg)) fun h69 =>
    ((ab_r h69 t0 39)).bind fun q71 =>
    if ab_in (ab_i h69 t0 24) (ab_shp q71).2 = true then
    (ab_let (ab_ip h69 q71 (ab_i h69 t0 24).toNatClampNeg i8) fun h73 =>
    if i8 = 0 then (ab_let (ab_ip h73 t0 25 ((ab_i h73 t0 25) ||| (((i3 >>> (i7 &&& 31)) &&& (1 : Int32)) <<< ((ab_i h73 t0 24) &&& 31)))) fun h77 =>
    ab_let (ab_ip h77 t0 24 ((ab_i h77 t0 24) + (1 : Int32))) fun h78 =>
    f_X12_two_l92 k82 t0 n i1 i2 i3 i4 i5 i7 (i8 + (1 : Int32)) h78)
    else (ab_let (ab_ip h73 t0 25 ((ab_i h73 t0 25) ||| (((i4 >>> (i7 &&& 31)) &&& (1 : Int32)) <<< ((ab_i h73 t0 24) &&& 31)))) fun h75 =>
    ab_let (ab_ip h75 t0 24 ((ab_i h75 t0 24) + (1 : Int32))) fun h76 =>
    f_X12_two_l92 k82 t0 n i1 i2 i3 i4 i5 i7 (i8 + (1 : Int32)) h76)) else none) else none) else none)
    else (f_X12_two_l92 k82 t0 n i1 i2 i3 i4 i5 i7 (i8 + (1 : Int32)) h)) else none)
    else (((ab_r h t0 5)).bind fun q40 =>
    if ab_in i2 (ab_shp q40).2 = true then
    (if i7 < (ab_i h q40 i2.toNatClampNeg) then (((ab_r h t0 6)).bind fun q45 =>
    if ab_in (((100 : Int32) * i2) + i7) (ab_shp q45).2 = true then
    (((ab_r h t0 19)).bind fun q47 =>
    if ab_in (ab_i h t0 24) (ab_shp q47).2 = true then
    (ab_let (ab_ip h q47 (ab_i h t0 24).toNatClampNeg (ab_i h q45 (((100 : Int32) * i2) + i7).toNatClampNeg)) fun h49 =>
    ((ab_r h49 t0 39)).bind fun q51 =>
    if ab_in (ab_i h49 t0 24) (ab_shp q51).2 = true then
    (ab_let (ab_ip h49 q51 (ab_i h49 t0 24).toNatClampNeg i8) fun h53 =>
    if i8 = 0 then (ab_let (ab_ip h53 t0 25 ((ab_i h53 t0 25) ||| (((i3 >>> (i7 &&& 31)) &&& (1 : Int32)) <<< ((ab_i h53 t0 24) &&& 31)))) fun h57 =>
    ab_let (ab_ip h57 t0 24 ((ab_i h57 t0 24) + (1 : Int32))) fun h58 =>
    f_X12_two_l92 k82 t0 n i1 i2 i3 i4 i5 i7 (i8 + (1 : Int32)) h58)
    else (ab_let (ab_ip h53 t0 25 ((ab_i h53 t0 25) ||| (((i4 >>> (i7 &&& 31)) &&& (1 : Int32)) <<< ((ab_i h53 t0 24) &&& 31)))) fun h55 =>
    ab_let (ab_ip h55 t0 24 ((ab_i h55 t0 24) + (1 : Int32))) fun h56 =>
    f_X12_two_l92 k82 t0 n i1 i2 i3 i4 i5 i7 (i8 + (1 : Int32)) h56)) else none) else none) else none)
    else (f_X12_two_l92 k82 t0 n i1 i2 i3 i4 i5 i7 (i8 + (1 : Int32)) h)) else none))
def f_X12_two_l82 (t0 : Nat) : Nat → Int32 → Int32 → Int32 → Int32 → Int32 → Int32 → ab_HP → Option (Int32 × ab_HP)
  | 0, _, _, _, _, _, _, _ => none
  | n + 1, i1, i2, i3, i4, i5, i7, h =>
    if 8 ≤ i7 then ((f_X12_begins t0 h).bind fun w23 =>
    (f_X12_pairOf t0 w23).bind fun w24 =>
    f_X12_two_l224 t0 1000 i5 0 0 w24)
    else (f_X12_two_l92 (f_X12_two_l82 t0 n) t0 1000 i1 i2 i3 i4 i5 i7 0 h)
def f_X12_two_b61 (t0 : Nat) (i1 : Int32) (i2 : Int32) (i3 : Int32) (i4 : Int32) (i5 : Int32) (i6 : Int32) (h : ab_HP) : Option (Int32 × ab_HP) :=
    if i6 = 0 then (ab_let (ab_ip h t0 24 0) fun h20 =>
    ab_let (ab_ip h20 t0 25 0) fun h21 =>
    f_X12_two_l82 t0 1000 i1 i2 i3 i4 i5 0 h21)
    else (some (i6, h))
def f_X12_two (t0 : Nat) (i1 : Int32) (i2 : Int32) (i3 : Int32) (i4 : Int32) (i5 : Int32) (h : ab_HP) : Option (Int32 × ab_HP) :=
    (f_X12_isShelf i1 h).bind fun w1 =>
    if w1 = 0 then (some ((-1), h))
    else ((f_X12_isShelf i2 h).bind fun w4 =>
    if w4 = 0 then (some ((-1), h))
    else ((f_X12_areNails i3 h).bind fun w7 =>
    if w7 = 0 then (some ((-1), h))
    else ((f_X12_areNails i4 h).bind fun w10 =>
    if w10 = 0 then (some ((-1), h))
    else ((f_X12_isIn (i5.toInt64) 0 1 h).bind fun w13 =>
    if w13 = 0 then (some ((-1), h))
    else ((f_X12_wrongList t0 i1 h).bind fun w16 =>
    if w16 = 0 then ((f_X12_wrongList t0 i2 h).bind fun w18 =>
    f_X12_two_b61 t0 i1 i2 i3 i4 i5 w18 h)
    else (f_X12_two_b61 t0 i1 i2 i3 i4 i5 w16 h))))))
def f_X12_month_l4 (t0 : Nat) : Nat → Int32 → Int32 → ab_HP → Option Int32
  | 0, _, _, _ => none
  | n + 1, i1, i2, h =>
    if 8 ≤ i2 then (some i1)
    else ((f_X12_priceOf t0 i2 h).bind fun w2 =>
    (f_X12_priceOf t0 i1 h).bind fun w3 =>
    if w3 ≤ w2 then (f_X12_month_l4 t0 n i1 (i2 + (1 : Int32)) h)
    else (f_X12_month_l4 t0 n i2 (i2 + (1 : Int32)) h))
def f_X12_month (t0 : Nat) (h : ab_HP) : Option Int32 :=
    f_X12_month_l4 t0 1000 0 1 h
def f_X12_nail (t0 : Nat) (i1 : Int32) (h : ab_HP) : Option Int32 :=
    (f_X12_isIn (i1.toInt64) 0 7 h).bind fun w1 =>
    if w1 = 0 then (some (-1))
    else ((f_X12_priceOf t0 i1 h).bind fun w4 =>
    some w4)
def f_X12_byLaw (t0 : Nat) (i1 : Int32) (i2 : Int32) (i3 : Int32) (h : ab_HP) : Option (Int32 × ab_HP) :=
    (f_X12_isIn (i1.toInt64) 0 2 h).bind fun w1 =>
    if w1 = 0 then (some ((-1), h))
    else ((f_X12_isShelf i2 h).bind fun w4 =>
    if w4 = 0 then (some ((-1), h))
    else ((f_X12_areNails i3 h).bind fun w7 =>
    if w7 = 0 then (some ((-1), h))
    else ((f_X12_wrongList t0 i2 h).bind fun w10 =>
    if w10 = 0 then (((ab_r h t0 0)).bind fun q13 =>
    if ab_in 3 (ab_shp q13).2 = true then
    (((ab_r h t0 0)).bind fun q16 =>
    if ab_in 3 (ab_shp q16).2 = true then
    (ab_let (ab_ip h q16 (3 : Int32).toNatClampNeg i1) fun h18 =>
    (f_X12_lays t0 i2 i3 h18).bind fun w19 =>
    (f_X12_pairOf t0 w19).bind fun w20 =>
    ((ab_r w20 t0 0)).bind fun q22 =>
    if ab_in 3 (ab_shp q22).2 = true then
    (ab_let (ab_ip w20 q22 (3 : Int32).toNatClampNeg (ab_i h q13 (3 : Int32).toNatClampNeg)) fun h24 =>
    (f_X12_bits (ab_i h24 t0 26) h24).bind fun w25 =>
    some (w25, h24)) else none) else none) else none)
    else (some (w10, h)))))
def f_X12_drawn (t0 : Nat) (i1 : Int32) (h : ab_HP) : Option (Int32 × ab_HP) :=
    ab_let (ab_ip h t0 40 (((ab_i h t0 40) * (1103515245 : Int32)) + (12345 : Int32))) fun h1 =>
    if i1 = 0 then none else
    some (((((ab_i h1 t0 40) &&& (2147483647 : Int32)) / (65536 : Int32)) - (((ab_i h1 t0 40) &&& (2147483647 : Int32)) / (65536 : Int32)) / i1 * i1), h1)
def f_X12_seeded_l71 (k51 : Int32 → Int32 → Int32 → ab_HP → Option (Int32 × ab_HP)) (t0 : Nat) : Nat → Int32 → Int32 → Int32 → Int32 → ab_HP → Option (Int32 × ab_HP)
  | 0, _, _, _, _, _ => none
  | n + 1, i1, i3, i4, i5, h =>
    if (ab_i h t0 24) ≤ i5 then ((f_X12_drawn t0 ((1 : Int32) <<< ((ab_i h t0 24) &&& 31)) h).bind fun w19 =>
    ab_let (ab_ip w19.2 t0 25 w19.1) fun h20 =>
    (f_X12_pairOf t0 h20).bind fun w21 =>
    k51 i1 i3 (i4 + (1 : Int32)) w21)
    else (((ab_r h t0 0)).bind fun q24 =>
    if ab_in 6 (ab_shp q24).2 = true then
    ((f_X12_drawn t0 (ab_i h q24 (6 : Int32).toNatClampNeg) h).bind fun w26 =>
    ((ab_r h t0 19)).bind fun q27 =>
    if ab_in i5 (ab_shp q27).2 = true then
    (ab_let (ab_ip w26.2 q27 i5.toNatClampNeg w26.1) fun h29 =>
    f_X12_seeded_l71 k51 t0 n i1 i3 i4 (i5 + (1 : Int32)) h29) else none) else none)
def f_X12_seeded_l51 (t0 : Nat) : Nat → Int32 → Int32 → Int32 → ab_HP → Option (Int32 × ab_HP)
  | 0, _, _, _, _ => none
  | n + 1, i1, i3, i4, h =>
    if i1 ≤ i4 then (if i3 = 0 then (some ((ab_i h t0 26), h))
    else (if i3 = 1 then (some ((ab_i h t0 27), h))
    else (some ((ab_i h t0 29), h))))
    else ((f_X12_drawn t0 4 h).bind fun w16 =>
    ab_let (ab_ip w16.2 t0 24 ((1 : Int32) + w16.1)) fun h17 =>
    f_X12_seeded_l71 (f_X12_seeded_l51 t0 n) t0 1000 i1 i3 i4 0 h17)
def f_X12_seeded (t0 : Nat) (i1 : Int32) (i2 : Int32) (i3 : Int32) (h : ab_HP) : Option (Int32 × ab_HP) :=
    (f_X12_isIn (i1.toInt64) 1 30 h).bind fun w1 =>
    if w1 = 0 then (some ((-1), h))
    else ((f_X12_isIn (i3.toInt64) 0 2 h).bind fun w4 =>
    if w4 = 0 then (some ((-1), h))
    else (((ab_r h t0 0)).bind fun q8 =>
    if ab_in 6 (ab_shp q8).2 = true then
    (if (ab_i h q8 (6 : Int32).toNatClampNeg) = 0 then (some ((-3), h))
    else (ab_let (ab_ip h t0 40 i2) fun h11 =>
    (f_X12_begins t0 h11).bind fun w12 =>
    f_X12_seeded_l51 t0 1000 i1 i3 0 w12)) else none))
def f_X12_leastOf (t0 : Nat) (i1 : Int32) (h : ab_HP) : Option Int32 :=
    ((ab_r h t0 4)).bind fun q2 =>
    if ab_in i1 (ab_shp q2).2 = true then
    (if (ab_i h q2 i1.toNatClampNeg) = 0 then (some (-128))
    else (((ab_r h t0 4)).bind fun q6 =>
    if ab_in i1 (ab_shp q6).2 = true then
    (if (ab_i h q6 i1.toNatClampNeg) = 1 then (some (-32768))
    else (some (-2147483648))) else none)) else none
def f_X12_judge_l64 (t0 : Nat) : Nat → Int32 → Int32 → ab_HP → Option (Int32 × ab_HP)
  | 0, _, _, _ => none
  | n + 1, i3, i5, h =>
    ((ab_r h t0 5)).bind fun q17 =>
    if ab_in i3 (ab_shp q17).2 = true then
    (if (ab_i h q17 i3.toNatClampNeg) ≤ i5 then (some ((-4), h))
    else (((ab_r h t0 6)).bind fun q21 =>
    if ab_in (((100 : Int32) * i3) + i5) (ab_shp q21).2 = true then
    (ab_let (ab_i h q21 (((100 : Int32) * i3) + i5).toNatClampNeg) fun v23 =>
    (f_X12_leastOf t0 i3 h).bind fun w24 =>
    if v23 = w24 then (f_X12_judge_l64 t0 n i3 (i5 + (1 : Int32)) h)
    else (if (ab_i h t0 24) < i5 then (some (i5, h))
    else (if (ab_i h t0 24) ≤ i5 then (if v23 = (ab_i h t0 26) then (f_X12_judge_l64 t0 n i3 (i5 + (1 : Int32)) h)
    else (some (i5, h)))
    else (((ab_r h t0 23)).bind fun q30 =>
    if ab_in i5 (ab_shp q30).2 = true then
    (if v23 = (ab_i h q30 i5.toNatClampNeg) then (f_X12_judge_l64 t0 n i3 (i5 + (1 : Int32)) h)
    else (some (i5, h))) else none)))) else none)) else none
def f_X12_judge_b43 (t0 : Nat) (i1 : Int32) (i2 : Int32) (i3 : Int32) (i4 : Int32) (h : ab_HP) : Option (Int32 × ab_HP) :=
    if i4 = 0 then ((f_X12_lays t0 i1 i2 h).bind fun w14 =>
    (f_X12_pairOf t0 w14).bind fun w15 =>
    f_X12_judge_l64 t0 1000 i3 0 w15)
    else (some (i4, h))
def f_X12_judge (t0 : Nat) (i1 : Int32) (i2 : Int32) (i3 : Int32) (h : ab_HP) : Option (Int32 × ab_HP) :=
    (f_X12_isShelf i1 h).bind fun w1 =>
    if w1 = 0 then (some ((-1), h))
    else ((f_X12_areNails i2 h).bind fun w4 =>
    if w4 = 0 then (some ((-1), h))
    else ((f_X12_isShelf i3 h).bind fun w7 =>
    if w7 = 0 then (some ((-1), h))
    else ((f_X12_wrongList t0 i1 h).bind fun w10 =>
    if w10 = 0 then ((f_X12_wrongRow t0 i3 (-1) h).bind fun w12 =>
    f_X12_judge_b43 t0 i1 i2 i3 w12 h)
    else (f_X12_judge_b43 t0 i1 i2 i3 w10 h))))
def f_X12_image_l2 (t0 : Nat) : Nat → Int32 → ab_HP → Option (Int32 × ab_HP)
  | 0, _, _ => none
  | n + 1, i1, h =>
    if 47 ≤ i1 then (ab_let (ab_ip h t0 9 1) fun h2 =>
    ((ab_r h2 t0 0)).bind fun q4 =>
    if ab_in 2 (ab_shp q4).2 = true then
    (some ((ab_i h2 q4 (2 : Int32).toNatClampNeg), h2)) else none)
    else (((ab_r h t0 0)).bind fun q8 =>
    if ab_in i1 (ab_shp q8).2 = true then
    (((ab_r h t0 1)).bind fun q10 =>
    if ab_in i1 (ab_shp q10).2 = true then
    (ab_let (ab_ip h q10 i1.toNatClampNeg (ab_i h q8 i1.toNatClampNeg)) fun h12 =>
    f_X12_image_l2 t0 n (i1 + (1 : Int32)) h12) else none) else none)
def f_X12_image (t0 : Nat) (h : ab_HP) : Option (Int32 × ab_HP) :=
    f_X12_image_l2 t0 1000 0 h
def f_X12_restore_l12 (t0 : Nat) : Nat → Int32 → ab_HP → Option (Int32 × ab_HP)
  | 0, _, _ => none
  | n + 1, i1, h =>
    if 47 ≤ i1 then (((ab_r h t0 0)).bind fun q4 =>
    if ab_in 2 (ab_shp q4).2 = true then
    (some ((ab_i h q4 (2 : Int32).toNatClampNeg), h)) else none)
    else (((ab_r h t0 1)).bind fun q8 =>
    if ab_in i1 (ab_shp q8).2 = true then
    (((ab_r h t0 0)).bind fun q10 =>
    if ab_in i1 (ab_shp q10).2 = true then
    (ab_let (ab_ip h q10 i1.toNatClampNeg (ab_i h q8 i1.toNatClampNeg)) fun h12 =>
    f_X12_restore_l12 t0 n (i1 + (1 : Int32)) h12) else none) else none)
def f_X12_restore (t0 : Nat) (h : ab_HP) : Option (Int32 × ab_HP) :=
    if (ab_i h t0 9) = 0 then (some ((-3), h))
    else (f_X12_restore_l12 t0 1000 0 h)
def f_X12_count_l47 (t0 : Nat) : Nat → Int32 → Int32 → Int32 → ab_HP → Option Int32
  | 0, _, _, _, _ => none
  | n + 1, i1, i2, i3, h =>
    ((ab_r h t0 0)).bind fun q14 =>
    if ab_in 6 (ab_shp q14).2 = true then
    (if (ab_i h q14 (6 : Int32).toNatClampNeg) ≤ i3 then (some i2)
    else (if i1 = 5 then ((f_X12_get t0 i3 3 h).bind fun w48 =>
    f_X12_count_l47 t0 n i1 (i2 + w48) (i3 + (1 : Int32)) h)
    else (if i1 = 2 then (((ab_r h t0 0)).bind fun q30 =>
    if ab_in 0 (ab_shp q30).2 = true then
    (((ab_r h t0 0)).bind fun q33 =>
    if ab_in 1 (ab_shp q33).2 = true then
    ((f_X12_mayBy t0 i3 (ab_i h q30 (0 : Int32).toNatClampNeg) (ab_i h q33 (1 : Int32).toNatClampNeg) h).bind fun w35 =>
    if w35 = 0 then (if i1 = 3 then ((f_X12_isKept t0 i3 h).bind fun w42 =>
    if w42 = 0 then (if i1 = 4 then ((f_X12_get t0 i3 0 h).bind fun w46 =>
    if w46 = 6 then (f_X12_count_l47 t0 n i1 (i2 + (1 : Int32)) (i3 + (1 : Int32)) h)
    else (f_X12_count_l47 t0 n i1 (i2 + (0 : Int32)) (i3 + (1 : Int32)) h))
    else (f_X12_count_l47 t0 n i1 (i2 + (0 : Int32)) (i3 + (1 : Int32)) h))
    else (f_X12_count_l47 t0 n i1 (i2 + (1 : Int32)) (i3 + (1 : Int32)) h))
    else (if i1 = 4 then ((f_X12_get t0 i3 0 h).bind fun w40 =>
    if w40 = 6 then (f_X12_count_l47 t0 n i1 (i2 + (1 : Int32)) (i3 + (1 : Int32)) h)
    else (f_X12_count_l47 t0 n i1 (i2 + (0 : Int32)) (i3 + (1 : Int32)) h))
    else (f_X12_count_l47 t0 n i1 (i2 + (0 : Int32)) (i3 + (1 : Int32)) h)))
    else (f_X12_count_l47 t0 n i1 (i2 + (1 : Int32)) (i3 + (1 : Int32)) h)) else none) else none)
    else (if i1 = 3 then ((f_X12_isKept t0 i3 h).bind fun w23 =>
    if w23 = 0 then (if i1 = 4 then ((f_X12_get t0 i3 0 h).bind fun w27 =>
    if w27 = 6 then (f_X12_count_l47 t0 n i1 (i2 + (1 : Int32)) (i3 + (1 : Int32)) h)
    else (f_X12_count_l47 t0 n i1 (i2 + (0 : Int32)) (i3 + (1 : Int32)) h))
    else (f_X12_count_l47 t0 n i1 (i2 + (0 : Int32)) (i3 + (1 : Int32)) h))
    else (f_X12_count_l47 t0 n i1 (i2 + (1 : Int32)) (i3 + (1 : Int32)) h))
    else (if i1 = 4 then ((f_X12_get t0 i3 0 h).bind fun w21 =>
    if w21 = 6 then (f_X12_count_l47 t0 n i1 (i2 + (1 : Int32)) (i3 + (1 : Int32)) h)
    else (f_X12_count_l47 t0 n i1 (i2 + (0 : Int32)) (i3 + (1 : Int32)) h))
    else (f_X12_count_l47 t0 n i1 (i2 + (0 : Int32)) (i3 + (1 : Int32)) h)))))) else none
def f_X12_count (t0 : Nat) (i1 : Int32) (h : ab_HP) : Option Int32 :=
    if i1 = 0 then (((ab_r h t0 0)).bind fun q11 =>
    if ab_in 6 (ab_shp q11).2 = true then
    (some (ab_i h q11 (6 : Int32).toNatClampNeg)) else none)
    else (if i1 = 1 then (((ab_r h t0 0)).bind fun q7 =>
    if ab_in 0 (ab_shp q7).2 = true then
    ((f_X12_bits (ab_i h q7 (0 : Int32).toNatClampNeg) h).bind fun w9 =>
    some w9) else none)
    else ((f_X12_isIn (i1.toInt64) 2 5 h).bind fun w3 =>
    if w3 = 0 then (some (-1))
    else (f_X12_count_l47 t0 1000 i1 0 0 h)))
def f_X12_careOf (t0 : Nat) (i1 : Int32) (h : ab_HP) : Option Int32 :=
    (f_X12_get t0 i1 4 h).bind fun w1 =>
    (f_X12_get t0 i1 0 h).bind fun w2 =>
    if w2 = 1 then (some 12)
    else if w2 = 2 then ((f_X12_get t0 i1 3 h).bind fun w5 =>
    some ((4 : Int32) + w5))
    else if w2 = 3 then ((f_X12_get t0 i1 3 h).bind fun w7 =>
    some (((4 : Int32) + w7) - w1))
    else if w2 = 4 then (some 1)
    else if w2 = 5 then (some 13)
    else if w2 = 6 then (some 8)
    else if w2 = 7 then (some w1)
    else (some 4)
def f_X12_keep_b32 (t0 : Nat) (i1 : Int32) (i2 : Int32) (i3 : Int32) (h : ab_HP) : Option (Int32 × ab_HP) :=
    ((ab_r h t0 3)).bind fun q12 =>
    if ab_in i1 (ab_shp q12).2 = true then
    (ab_let (ab_ip h q12 i1.toNatClampNeg i2) fun h14 =>
    if i2 = 0 then (some (0, h14))
    else ((f_X12_get t0 i3 0 h14).bind fun w16 =>
    (f_X12_careOf t0 i3 h14).bind fun w18 =>
    ((ab_r h14 t0 7)).bind fun q19 =>
    if ab_in i1 (ab_shp q19).2 = true then
    (ab_let (ab_ip h14 q19 i1.toNatClampNeg w18) fun h21 =>
    if w16 = 3 then (((ab_r h21 t0 8)).bind fun q24 =>
    if ab_in i1 (ab_shp q24).2 = true then
    (ab_let (ab_ip h21 q24 i1.toNatClampNeg (-15)) fun h26 =>
    some (0, h26)) else none)
    else ((f_X12_get t0 i3 4 h21).bind fun w27 =>
    if w27 = 0 then (((ab_r h21 t0 8)).bind fun q41 =>
    if ab_in i1 (ab_shp q41).2 = true then
    (ab_let (ab_ip h21 q41 i1.toNatClampNeg (-15)) fun h43 =>
    some (0, h43)) else none)
    else (if w16 = 5 then (((ab_r h21 t0 8)).bind fun q38 =>
    if ab_in i1 (ab_shp q38).2 = true then
    (ab_let (ab_ip h21 q38 i1.toNatClampNeg ((100 : Int32) + i3)) fun h40 =>
    some (0, h40)) else none)
    else (if w16 = 7 then ((f_X12_careOf t0 i3 h21).bind fun w34 =>
    ((ab_r h21 t0 8)).bind fun q35 =>
    if ab_in i1 (ab_shp q35).2 = true then
    (ab_let (ab_ip h21 q35 i1.toNatClampNeg ((200 : Int32) + w34)) fun h37 =>
    some (0, h37)) else none)
    else (((ab_r h21 t0 8)).bind fun q31 =>
    if ab_in i1 (ab_shp q31).2 = true then
    (ab_let (ab_ip h21 q31 i1.toNatClampNeg i3) fun h33 =>
    some (0, h33)) else none))))) else none)) else none
def f_X12_keep (t0 : Nat) (i1 : Int32) (i2 : Int32) (i3 : Int32) (h : ab_HP) : Option (Int32 × ab_HP) :=
    (f_X12_isShelf i1 h).bind fun w1 =>
    if w1 = 0 then (some ((-1), h))
    else ((f_X12_isIn (i2.toInt64) 0 1 h).bind fun w4 =>
    if w4 = 0 then (some ((-1), h))
    else (if i2 = 1 then ((f_X12_isDeed t0 i3 h).bind fun w8 =>
    if w8 = 0 then (some ((-1), h))
    else (f_X12_keep_b32 t0 i1 i2 i3 h))
    else (f_X12_keep_b32 t0 i1 i2 i3 h)))
def f_X12_row_l58 (t0 : Nat) : Nat → Int32 → Int32 → ab_HP → Option (Int32 × ab_HP)
  | 0, _, _, _ => none
  | n + 1, i1, i4, h =>
    if 100 ≤ i4 then (some (0, h))
    else (((ab_r h t0 6)).bind fun q23 =>
    if ab_in (((100 : Int32) * i1) + i4) (ab_shp q23).2 = true then
    (ab_let (ab_ip h q23 (((100 : Int32) * i1) + i4).toNatClampNeg 0) fun h25 =>
    f_X12_row_l58 t0 n i1 (i4 + (1 : Int32)) h25) else none)
def f_X12_row (t0 : Nat) (i1 : Int32) (i2 : Int32) (i3 : Int32) (h : ab_HP) : Option (Int32 × ab_HP) :=
    (f_X12_isShelf i1 h).bind fun w1 =>
    if w1 = 0 then (some ((-1), h))
    else ((f_X12_isIn (i2.toInt64) 0 2 h).bind fun w4 =>
    if w4 = 0 then (some ((-1), h))
    else (if i3 ≤ 100 then (if (0 : Int32) ≤ i3 then (((ab_r h t0 3)).bind fun q10 =>
    if ab_in i1 (ab_shp q10).2 = true then
    (ab_let (ab_ip h q10 i1.toNatClampNeg 2) fun h12 =>
    ((ab_r h12 t0 4)).bind fun q14 =>
    if ab_in i1 (ab_shp q14).2 = true then
    (ab_let (ab_ip h12 q14 i1.toNatClampNeg i2) fun h16 =>
    ((ab_r h16 t0 5)).bind fun q18 =>
    if ab_in i1 (ab_shp q18).2 = true then
    (ab_let (ab_ip h16 q18 i1.toNatClampNeg i3) fun h20 =>
    f_X12_row_l58 t0 1000 i1 0 h20) else none) else none) else none)
    else (some ((-14), h)))
    else (some ((-1), h))))
def f_X12_put (t0 : Nat) (i1 : Int32) (i2 : Int32) (i3 : Int32) (h : ab_HP) : Option (Int32 × ab_HP) :=
    (f_X12_wrongRow t0 i1 (-1) h).bind fun w1 =>
    if w1 = 0 then (((ab_r h t0 5)).bind fun q4 =>
    if ab_in i1 (ab_shp q4).2 = true then
    ((f_X12_isIn (i2.toInt64) 0 (((ab_i h q4 i1.toNatClampNeg) - (1 : Int32)).toInt64) h).bind fun w6 =>
    if w6 = 0 then (some ((-13), h))
    else (((ab_r h t0 4)).bind fun q11 =>
    if ab_in i1 (ab_shp q11).2 = true then
    (if (ab_i h q11 i1.toNatClampNeg) = 0 then (((ab_r h t0 6)).bind fun q24 =>
    if ab_in (((100 : Int32) * i1) + i2) (ab_shp q24).2 = true then
    (ab_let (ab_ip h q24 (((100 : Int32) * i1) + i2).toNatClampNeg (i3.toInt8.toInt32)) fun h26 =>
    some (0, h26)) else none)
    else (((ab_r h t0 4)).bind fun q15 =>
    if ab_in i1 (ab_shp q15).2 = true then
    (if (ab_i h q15 i1.toNatClampNeg) = 1 then (((ab_r h t0 6)).bind fun q21 =>
    if ab_in (((100 : Int32) * i1) + i2) (ab_shp q21).2 = true then
    (ab_let (ab_ip h q21 (((100 : Int32) * i1) + i2).toNatClampNeg (i3.toInt16.toInt32)) fun h23 =>
    some (0, h23)) else none)
    else (((ab_r h t0 6)).bind fun q18 =>
    if ab_in (((100 : Int32) * i1) + i2) (ab_shp q18).2 = true then
    (ab_let (ab_ip h q18 (((100 : Int32) * i1) + i2).toNatClampNeg i3) fun h20 =>
    some (0, h20)) else none)) else none)) else none)) else none)
    else (some (w1, h))
def f_X12_element (t0 : Nat) (i1 : Int32) (i2 : Int32) (h : ab_HP) : Option (Int64 × ab_HP) :=
    (f_X12_isShelf i1 h).bind fun w1 =>
    if w1 = 0 then (ab_let (ab_ip h t0 10 1) fun h29 =>
    if (ab_i h29 t0 10) = 0 then (((ab_r h29 t0 6)).bind fun q32 =>
    if ab_in (((100 : Int32) * i1) + i2) (ab_shp q32).2 = true then
    (some (((ab_i h29 q32 (((100 : Int32) * i1) + i2).toNatClampNeg).toInt64), h29)) else none)
    else (some (0, h29)))
    else (((ab_r h t0 3)).bind fun q5 =>
    if ab_in i1 (ab_shp q5).2 = true then
    (if (ab_i h q5 i1.toNatClampNeg) = 2 then (((ab_r h t0 5)).bind fun q14 =>
    if ab_in i1 (ab_shp q14).2 = true then
    ((f_X12_isIn (i2.toInt64) 0 (((ab_i h q14 i1.toNatClampNeg) - (1 : Int32)).toInt64) h).bind fun w16 =>
    if w16 = 0 then (ab_let (ab_ip h t0 10 2) fun h24 =>
    if (ab_i h24 t0 10) = 0 then (((ab_r h24 t0 6)).bind fun q27 =>
    if ab_in (((100 : Int32) * i1) + i2) (ab_shp q27).2 = true then
    (some (((ab_i h24 q27 (((100 : Int32) * i1) + i2).toNatClampNeg).toInt64), h24)) else none)
    else (some (0, h24)))
    else (ab_let (ab_ip h t0 10 0) fun h19 =>
    if (ab_i h19 t0 10) = 0 then (((ab_r h19 t0 6)).bind fun q22 =>
    if ab_in (((100 : Int32) * i1) + i2) (ab_shp q22).2 = true then
    (some (((ab_i h19 q22 (((100 : Int32) * i1) + i2).toNatClampNeg).toInt64), h19)) else none)
    else (some (0, h19)))) else none)
    else (ab_let (ab_ip h t0 10 2) fun h8 =>
    if (ab_i h8 t0 10) = 0 then (((ab_r h8 t0 6)).bind fun q11 =>
    if ab_in (((100 : Int32) * i1) + i2) (ab_shp q11).2 = true then
    (some (((ab_i h8 q11 (((100 : Int32) * i1) + i2).toNatClampNeg).toInt64), h8)) else none)
    else (some (0, h8)))) else none)
def f_X12_thrown (t0 : Nat) (h : ab_HP) : Option Int32 :=
    some (ab_i h t0 10)
def f_X12_copy_l122 (t0 : Nat) : Nat → Int32 → Int32 → Int32 → Int32 → Int32 → Int32 → ab_HP → Option (Int32 × ab_HP)
  | 0, _, _, _, _, _, _, _ => none
  | n + 1, i1, i2, i3, i4, i5, i6, h =>
    if i5 ≤ i6 then (some (i5, h))
    else (if i2 ≤ i4 then (((ab_r h t0 6)).bind fun q45 =>
    if ab_in ((((100 : Int32) * i1) + i2) + ((i5 - (1 : Int32)) - i6)) (ab_shp q45).2 = true then
    (if ab_in ((((100 : Int32) * i3) + i4) + ((i5 - (1 : Int32)) - i6)) (ab_shp q45).2 = true then
    (ab_let (ab_ip h q45 ((((100 : Int32) * i3) + i4) + ((i5 - (1 : Int32)) - i6)).toNatClampNeg (ab_i h q45 ((((100 : Int32) * i1) + i2) + ((i5 - (1 : Int32)) - i6)).toNatClampNeg)) fun h48 =>
    f_X12_copy_l122 t0 n i1 i2 i3 i4 i5 (i6 + (1 : Int32)) h48) else none) else none)
    else (((ab_r h t0 6)).bind fun q51 =>
    if ab_in ((((100 : Int32) * i1) + i2) + i6) (ab_shp q51).2 = true then
    (if ab_in ((((100 : Int32) * i3) + i4) + i6) (ab_shp q51).2 = true then
    (ab_let (ab_ip h q51 ((((100 : Int32) * i3) + i4) + i6).toNatClampNeg (ab_i h q51 ((((100 : Int32) * i1) + i2) + i6).toNatClampNeg)) fun h54 =>
    f_X12_copy_l122 t0 n i1 i2 i3 i4 i5 (i6 + (1 : Int32)) h54) else none) else none))
def f_X12_copy (t0 : Nat) (i1 : Int32) (i2 : Int32) (i3 : Int32) (i4 : Int32) (i5 : Int32) (h : ab_HP) : Option (Int32 × ab_HP) :=
    (f_X12_isShelf i1 h).bind fun w1 =>
    if w1 = 0 then (some ((-1), h))
    else ((f_X12_isShelf i3 h).bind fun w4 =>
    if w4 = 0 then (some ((-1), h))
    else (((ab_r h t0 3)).bind fun q8 =>
    if ab_in i1 (ab_shp q8).2 = true then
    (if (ab_i h q8 i1.toNatClampNeg) = 0 then (some ((-11), h))
    else (((ab_r h t0 3)).bind fun q12 =>
    if ab_in i3 (ab_shp q12).2 = true then
    (if (ab_i h q12 i3.toNatClampNeg) = 0 then (some ((-11), h))
    else (((ab_r h t0 3)).bind fun q16 =>
    if ab_in i1 (ab_shp q16).2 = true then
    (if (ab_i h q16 i1.toNatClampNeg) = 2 then (((ab_r h t0 3)).bind fun q20 =>
    if ab_in i3 (ab_shp q20).2 = true then
    (if (ab_i h q20 i3.toNatClampNeg) = 2 then (((ab_r h t0 4)).bind fun q24 =>
    if ab_in i1 (ab_shp q24).2 = true then
    (((ab_r h t0 4)).bind fun q27 =>
    if ab_in i3 (ab_shp q27).2 = true then
    (if (ab_i h q24 i1.toNatClampNeg) = (ab_i h q27 i3.toNatClampNeg) then (if i5 < 0 then (some ((-13), h))
    else (if i2 < 0 then (some ((-13), h))
    else (if i4 < 0 then (some ((-13), h))
    else (((ab_r h t0 5)).bind fun q34 =>
    if ab_in i1 (ab_shp q34).2 = true then
    (if ((ab_i h q34 i1.toNatClampNeg) - i2) < i5 then (some ((-13), h))
    else (((ab_r h t0 5)).bind fun q38 =>
    if ab_in i3 (ab_shp q38).2 = true then
    (if i5 ≤ ((ab_i h q38 i3.toNatClampNeg) - i4) then (f_X12_copy_l122 t0 1000 i1 i2 i3 i4 i5 0 h)
    else (some ((-13), h))) else none)) else none))))
    else (some ((-12), h))) else none) else none)
    else (some ((-12), h))) else none)
    else (some ((-12), h))) else none)) else none)) else none))
def f_X12_wrongKept (t0 : Nat) (i1 : Int32) (h : ab_HP) : Option Int32 :=
    (f_X12_isShelf i1 h).bind fun w1 =>
    if w1 = 0 then (some (-1))
    else (((ab_r h t0 3)).bind fun q5 =>
    if ab_in i1 (ab_shp q5).2 = true then
    (if (ab_i h q5 i1.toNatClampNeg) = 0 then (some (-11))
    else (((ab_r h t0 3)).bind fun q9 =>
    if ab_in i1 (ab_shp q9).2 = true then
    (if (ab_i h q9 i1.toNatClampNeg) = 1 then (some 0)
    else (some (-12))) else none)) else none)
def f_X12_care (t0 : Nat) (i1 : Int32) (h : ab_HP) : Option Int32 :=
    (f_X12_wrongKept t0 i1 h).bind fun w1 =>
    if w1 = 0 then (((ab_r h t0 7)).bind fun q4 =>
    if ab_in i1 (ab_shp q4).2 = true then
    (some (ab_i h q4 i1.toNatClampNeg)) else none)
    else (some w1)
def f_X12_toss (t0 : Nat) (i1 : Int32) (h : ab_HP) : Option Int32 :=
    (f_X12_wrongKept t0 i1 h).bind fun w1 =>
    if w1 = 0 then (((ab_r h t0 8)).bind fun q4 =>
    if ab_in i1 (ab_shp q4).2 = true then
    (some (ab_i h q4 i1.toNatClampNeg)) else none)
    else (some w1)
