/-- toss, and the law's element: walked by hand (they throw and catch) -/
def f_X11_toss (t0 : Nat) (i1 : Int32) (h : ab_HP) : Option (Int32 × ab_HP) :=
  (f_X11_shelfAt t0 i1 h).bind fun w1 => w1.elim (some (-1, h)) (fun q => (ab_r h q 1).elim ((f_X6_deedRefusal q h).bind fun w2 => some (w2, h)) (fun p => if ab_i h p 13 = 0 then some (-15, h) else some (ab_i h p 12, h)))
def f_L_element (i0 : Option Nat) (i1 i2 : Int32) (i3 : Option Nat) (h : ab_HP) : Option (Int32 × ab_HP) :=
  i0.bind fun q => (f_X11_shelfAt q i1 h).bind fun w1 => w1.elim (some (1, h)) (fun s => (f_X6_rowRefusal s h).bind fun w2 => if w2 = 0 then ((f_X6_hasPlace s i2 h).bind fun w3 => if w3 = 0 then some (2, h) else ((f_X6_read s i2 h).bind fun w4 => i3.bind fun o => if ab_in 0 (ab_shp o).2 = true then some (0, ab_lp h o 0 w4.toInt64) else none)) else some (2, h))
def f_L_law_l23 (L : Nat) (xs : Nat → Int32) : Nat → Option Nat → Option Nat → Option Nat → Int32 → ab_HP → Option (Int32 × ab_HP)
  | 0, _, _, _, _, _ => none
  | n + 1, i1, i2, i3, i4, h =>
    if ((Int32.ofNat L) - (6 : Int32)) < i4 then (some (1, h))
    else (if ab_in i4 L = true then
    (if ((xs i4.toNatClampNeg) &&& (63 : Int32)) = 0 then (if ab_in (i4 + (1 : Int32)) L = true then
    ((i1).bind fun q13 =>
    (f_X11_town q13 (xs (i4 + (1 : Int32)).toNatClampNeg) h).bind fun w14 =>
    if ab_in (i4 + (1 : Int32)) L = true then
    ((i2).bind fun q16 =>
    (f_X12_town q16 (xs (i4 + (1 : Int32)).toNatClampNeg) w14.2).bind fun w17 =>
    if w14.1 = w17.1 then (f_L_law_l23 L xs n i1 i2 i3 (i4 + (6 : Int32)) w17.2)
    else (some (0, w17.2))) else none) else none)
    else if ((xs i4.toNatClampNeg) &&& (63 : Int32)) = 1 then (if ab_in (i4 + (1 : Int32)) L = true then
    (if ab_in (i4 + (2 : Int32)) L = true then
    ((i1).bind fun q22 =>
    (f_X11_deed q22 (xs (i4 + (1 : Int32)).toNatClampNeg) (xs (i4 + (2 : Int32)).toNatClampNeg) h).bind fun w23 =>
    if ab_in (i4 + (1 : Int32)) L = true then
    (if ab_in (i4 + (2 : Int32)) L = true then
    ((i2).bind fun q26 =>
    (f_X12_deed q26 (xs (i4 + (1 : Int32)).toNatClampNeg) (xs (i4 + (2 : Int32)).toNatClampNeg) h).bind fun w27 =>
    if w23 = w27 then (f_L_law_l23 L xs n i1 i2 i3 (i4 + (6 : Int32)) h)
    else (some (0, h))) else none) else none) else none) else none)
    else if ((xs i4.toNatClampNeg) &&& (63 : Int32)) = 2 then ((i1).bind fun q30 =>
    (f_X11_marks q30 h).bind fun w31 =>
    (i2).bind fun q32 =>
    (f_X12_marks q32 h).bind fun w33 =>
    if w31 = w33 then (f_L_law_l23 L xs n i1 i2 i3 (i4 + (6 : Int32)) h)
    else (some (0, h)))
    else if ((xs i4.toNatClampNeg) &&& (63 : Int32)) = 3 then (if ab_in (i4 + (1 : Int32)) L = true then
    ((i1).bind fun q37 =>
    (f_X11_state q37 (xs (i4 + (1 : Int32)).toNatClampNeg) h).bind fun w38 =>
    if ab_in (i4 + (1 : Int32)) L = true then
    ((i2).bind fun q40 =>
    (f_X12_state q40 (xs (i4 + (1 : Int32)).toNatClampNeg) h).bind fun w41 =>
    if w38 = w41 then (f_L_law_l23 L xs n i1 i2 i3 (i4 + (6 : Int32)) h)
    else (some (0, h))) else none) else none)
    else if ((xs i4.toNatClampNeg) &&& (63 : Int32)) = 4 then ((i1).bind fun q44 =>
    (f_X11_rise q44 h).bind fun w45 =>
    (i2).bind fun q46 =>
    (f_X12_rise q46 h).bind fun w47 =>
    if w45 = w47 then (f_L_law_l23 L xs n i1 i2 i3 (i4 + (6 : Int32)) h)
    else (some (0, h)))
    else if ((xs i4.toNatClampNeg) &&& (63 : Int32)) = 5 then (if ab_in (i4 + (1 : Int32)) L = true then
    (if ab_in (i4 + (2 : Int32)) L = true then
    ((i1).bind fun q52 =>
    (f_X11_set q52 (xs (i4 + (1 : Int32)).toNatClampNeg) (xs (i4 + (2 : Int32)).toNatClampNeg) h).bind fun w53 =>
    if ab_in (i4 + (1 : Int32)) L = true then
    (if ab_in (i4 + (2 : Int32)) L = true then
    ((i2).bind fun q56 =>
    (f_X12_set q56 (xs (i4 + (1 : Int32)).toNatClampNeg) (xs (i4 + (2 : Int32)).toNatClampNeg) w53.2).bind fun w57 =>
    if w53.1 = w57.1 then (f_L_law_l23 L xs n i1 i2 i3 (i4 + (6 : Int32)) w57.2)
    else (some (0, w57.2))) else none) else none) else none) else none)
    else if ((xs i4.toNatClampNeg) &&& (63 : Int32)) = 6 then (if ab_in (i4 + (1 : Int32)) L = true then
    ((i1).bind fun q61 =>
    (f_X11_may q61 (xs (i4 + (1 : Int32)).toNatClampNeg) h).bind fun w62 =>
    if ab_in (i4 + (1 : Int32)) L = true then
    ((i2).bind fun q64 =>
    (f_X12_may q64 (xs (i4 + (1 : Int32)).toNatClampNeg) h).bind fun w65 =>
    if w62 = w65 then (f_L_law_l23 L xs n i1 i2 i3 (i4 + (6 : Int32)) h)
    else (some (0, h))) else none) else none)
    else if ((xs i4.toNatClampNeg) &&& (63 : Int32)) = 7 then (if ab_in (i4 + (1 : Int32)) L = true then
    (if ab_in (i4 + (2 : Int32)) L = true then
    ((i1).bind fun q70 =>
    (f_X11_pair q70 (xs (i4 + (1 : Int32)).toNatClampNeg) (xs (i4 + (2 : Int32)).toNatClampNeg) h).bind fun w71 =>
    if ab_in (i4 + (1 : Int32)) L = true then
    (if ab_in (i4 + (2 : Int32)) L = true then
    ((i2).bind fun q74 =>
    (f_X12_pair q74 (xs (i4 + (1 : Int32)).toNatClampNeg) (xs (i4 + (2 : Int32)).toNatClampNeg) w71.2).bind fun w75 =>
    if w71.1 = w75.1 then (f_L_law_l23 L xs n i1 i2 i3 (i4 + (6 : Int32)) w75.2)
    else (some (0, w75.2))) else none) else none) else none) else none)
    else if ((xs i4.toNatClampNeg) &&& (63 : Int32)) = 8 then (if ab_in (i4 + (1 : Int32)) L = true then
    ((i1).bind fun q79 =>
    (f_X11_even q79 (xs (i4 + (1 : Int32)).toNatClampNeg) h).bind fun w80 =>
    if ab_in (i4 + (1 : Int32)) L = true then
    ((i2).bind fun q82 =>
    (f_X12_even q82 (xs (i4 + (1 : Int32)).toNatClampNeg) w80.2).bind fun w83 =>
    if w80.1 = w83.1 then (f_L_law_l23 L xs n i1 i2 i3 (i4 + (6 : Int32)) w83.2)
    else (some (0, w83.2))) else none) else none)
    else if ((xs i4.toNatClampNeg) &&& (63 : Int32)) = 9 then (if ab_in (i4 + (1 : Int32)) L = true then
    (if ab_in (i4 + (2 : Int32)) L = true then
    (if ab_in (i4 + (3 : Int32)) L = true then
    ((i1).bind fun q89 =>
    (f_X11_lasts q89 (xs (i4 + (1 : Int32)).toNatClampNeg) (xs (i4 + (2 : Int32)).toNatClampNeg) (xs (i4 + (3 : Int32)).toNatClampNeg) h).bind fun w90 =>
    if ab_in (i4 + (1 : Int32)) L = true then
    (if ab_in (i4 + (2 : Int32)) L = true then
    (if ab_in (i4 + (3 : Int32)) L = true then
    ((i2).bind fun q94 =>
    (f_X12_lasts q94 (xs (i4 + (1 : Int32)).toNatClampNeg) (xs (i4 + (2 : Int32)).toNatClampNeg) (xs (i4 + (3 : Int32)).toNatClampNeg) w90.2).bind fun w95 =>
    if w90.1 = w95.1 then (f_L_law_l23 L xs n i1 i2 i3 (i4 + (6 : Int32)) w95.2)
    else (some (0, w95.2))) else none) else none) else none) else none) else none) else none)
    else if ((xs i4.toNatClampNeg) &&& (63 : Int32)) = 10 then (if ab_in (i4 + (1 : Int32)) L = true then
    (if ab_in (i4 + (2 : Int32)) L = true then
    (if ab_in (i4 + (3 : Int32)) L = true then
    ((i1).bind fun q101 =>
    (f_X11_why q101 (xs (i4 + (1 : Int32)).toNatClampNeg) (xs (i4 + (2 : Int32)).toNatClampNeg) (xs (i4 + (3 : Int32)).toNatClampNeg) h).bind fun w102 =>
    if ab_in (i4 + (1 : Int32)) L = true then
    (if ab_in (i4 + (2 : Int32)) L = true then
    (if ab_in (i4 + (3 : Int32)) L = true then
    ((i2).bind fun q106 =>
    (f_X12_why q106 (xs (i4 + (1 : Int32)).toNatClampNeg) (xs (i4 + (2 : Int32)).toNatClampNeg) (xs (i4 + (3 : Int32)).toNatClampNeg) w102.2).bind fun w107 =>
    if w102.1 = w107.1 then (f_L_law_l23 L xs n i1 i2 i3 (i4 + (6 : Int32)) w107.2)
    else (some (0, w107.2))) else none) else none) else none) else none) else none) else none)
    else if ((xs i4.toNatClampNeg) &&& (63 : Int32)) = 11 then (if ab_in (i4 + (1 : Int32)) L = true then
    (if ab_in (i4 + (2 : Int32)) L = true then
    (if ab_in (i4 + (3 : Int32)) L = true then
    ((i1).bind fun q113 =>
    (f_X11_behind q113 (xs (i4 + (1 : Int32)).toNatClampNeg) (xs (i4 + (2 : Int32)).toNatClampNeg) (xs (i4 + (3 : Int32)).toNatClampNeg) h).bind fun w114 =>
    if ab_in (i4 + (1 : Int32)) L = true then
    (if ab_in (i4 + (2 : Int32)) L = true then
    (if ab_in (i4 + (3 : Int32)) L = true then
    ((i2).bind fun q118 =>
    (f_X12_behind q118 (xs (i4 + (1 : Int32)).toNatClampNeg) (xs (i4 + (2 : Int32)).toNatClampNeg) (xs (i4 + (3 : Int32)).toNatClampNeg) w114.2).bind fun w119 =>
    if w114.1 = w119.1 then (f_L_law_l23 L xs n i1 i2 i3 (i4 + (6 : Int32)) w119.2)
    else (some (0, w119.2))) else none) else none) else none) else none) else none) else none)
    else if ((xs i4.toNatClampNeg) &&& (63 : Int32)) = 12 then (if ab_in (i4 + (1 : Int32)) L = true then
    (if ab_in (i4 + (2 : Int32)) L = true then
    (if ab_in (i4 + (3 : Int32)) L = true then
    ((i1).bind fun q125 =>
    (f_X11_least q125 (xs (i4 + (1 : Int32)).toNatClampNeg) (xs (i4 + (2 : Int32)).toNatClampNeg) (xs (i4 + (3 : Int32)).toNatClampNeg) h).bind fun w126 =>
    if ab_in (i4 + (1 : Int32)) L = true then
    (if ab_in (i4 + (2 : Int32)) L = true then
    (if ab_in (i4 + (3 : Int32)) L = true then
    ((i2).bind fun q130 =>
    (f_X12_least q130 (xs (i4 + (1 : Int32)).toNatClampNeg) (xs (i4 + (2 : Int32)).toNatClampNeg) (xs (i4 + (3 : Int32)).toNatClampNeg) w126.2).bind fun w131 =>
    if w126.1 = w131.1 then (f_L_law_l23 L xs n i1 i2 i3 (i4 + (6 : Int32)) w131.2)
    else (some (0, w131.2))) else none) else none) else none) else none) else none) else none)
    else if ((xs i4.toNatClampNeg) &&& (63 : Int32)) = 13 then (if ab_in (i4 + (1 : Int32)) L = true then
    (if ab_in (i4 + (2 : Int32)) L = true then
    (if ab_in (i4 + (3 : Int32)) L = true then
    ((i1).bind fun q137 =>
    (f_X11_free q137 (xs (i4 + (1 : Int32)).toNatClampNeg) (xs (i4 + (2 : Int32)).toNatClampNeg) (xs (i4 + (3 : Int32)).toNatClampNeg) h).bind fun w138 =>
    if ab_in (i4 + (1 : Int32)) L = true then
    (if ab_in (i4 + (2 : Int32)) L = true then
    (if ab_in (i4 + (3 : Int32)) L = true then
    ((i2).bind fun q142 =>
    (f_X12_free q142 (xs (i4 + (1 : Int32)).toNatClampNeg) (xs (i4 + (2 : Int32)).toNatClampNeg) (xs (i4 + (3 : Int32)).toNatClampNeg) w138.2).bind fun w143 =>
    if w138.1 = w143.1 then (f_L_law_l23 L xs n i1 i2 i3 (i4 + (6 : Int32)) w143.2)
    else (some (0, w143.2))) else none) else none) else none) else none) else none) else none)
    else if ((xs i4.toNatClampNeg) &&& (63 : Int32)) = 14 then (if ab_in (i4 + (1 : Int32)) L = true then
    (if ab_in (i4 + (2 : Int32)) L = true then
    (if ab_in (i4 + (3 : Int32)) L = true then
    ((i1).bind fun q149 =>
    (f_X11_plan q149 (xs (i4 + (1 : Int32)).toNatClampNeg) (xs (i4 + (2 : Int32)).toNatClampNeg) (xs (i4 + (3 : Int32)).toNatClampNeg) h).bind fun w150 =>
    if ab_in (i4 + (1 : Int32)) L = true then
    (if ab_in (i4 + (2 : Int32)) L = true then
    (if ab_in (i4 + (3 : Int32)) L = true then
    ((i2).bind fun q154 =>
    (f_X12_plan q154 (xs (i4 + (1 : Int32)).toNatClampNeg) (xs (i4 + (2 : Int32)).toNatClampNeg) (xs (i4 + (3 : Int32)).toNatClampNeg) w150.2).bind fun w155 =>
    if w150.1 = w155.1 then (f_L_law_l23 L xs n i1 i2 i3 (i4 + (6 : Int32)) w155.2)
    else (some (0, w155.2))) else none) else none) else none) else none) else none) else none)
    else if ((xs i4.toNatClampNeg) &&& (63 : Int32)) = 15 then ((i1).bind fun q158 =>
    (f_X11_ever q158 h).bind fun w159 =>
    (i2).bind fun q160 =>
    (f_X12_ever q160 h).bind fun w161 =>
    if w159 = w161 then (f_L_law_l23 L xs n i1 i2 i3 (i4 + (6 : Int32)) h)
    else (some (0, h)))
    else if ((xs i4.toNatClampNeg) &&& (63 : Int32)) = 16 then ((i1).bind fun q164 =>
    (f_X11_help q164 h).bind fun w165 =>
    (i2).bind fun q166 =>
    (f_X12_help q166 h).bind fun w167 =>
    if w165 = w167 then (f_L_law_l23 L xs n i1 i2 i3 (i4 + (6 : Int32)) h)
    else (some (0, h)))
    else if ((xs i4.toNatClampNeg) &&& (63 : Int32)) = 17 then (if ab_in (i4 + (1 : Int32)) L = true then
    (if ab_in (i4 + (2 : Int32)) L = true then
    (if ab_in (i4 + (3 : Int32)) L = true then
    (if ab_in (i4 + (4 : Int32)) L = true then
    (if ab_in (i4 + (5 : Int32)) L = true then
    ((i1).bind fun q175 =>
    (f_X11_two q175 (xs (i4 + (1 : Int32)).toNatClampNeg) (xs (i4 + (2 : Int32)).toNatClampNeg) (xs (i4 + (3 : Int32)).toNatClampNeg) (xs (i4 + (4 : Int32)).toNatClampNeg) (xs (i4 + (5 : Int32)).toNatClampNeg) h).bind fun w176 =>
    if ab_in (i4 + (1 : Int32)) L = true then
    (if ab_in (i4 + (2 : Int32)) L = true then
    (if ab_in (i4 + (3 : Int32)) L = true then
    (if ab_in (i4 + (4 : Int32)) L = true then
    (if ab_in (i4 + (5 : Int32)) L = true then
    ((i2).bind fun q182 =>
    (f_X12_two q182 (xs (i4 + (1 : Int32)).toNatClampNeg) (xs (i4 + (2 : Int32)).toNatClampNeg) (xs (i4 + (3 : Int32)).toNatClampNeg) (xs (i4 + (4 : Int32)).toNatClampNeg) (xs (i4 + (5 : Int32)).toNatClampNeg) w176.2).bind fun w183 =>
    if w176.1 = w183.1 then (f_L_law_l23 L xs n i1 i2 i3 (i4 + (6 : Int32)) w183.2)
    else (some (0, w183.2))) else none) else none) else none) else none) else none) else none) else none) else none) else none) else none)
    else if ((xs i4.toNatClampNeg) &&& (63 : Int32)) = 18 then ((i1).bind fun q186 =>
    (f_X11_month q186 h).bind fun w187 =>
    (i2).bind fun q188 =>
    (f_X12_month q188 h).bind fun w189 =>
    if w187 = w189 then (f_L_law_l23 L xs n i1 i2 i3 (i4 + (6 : Int32)) h)
    else (some (0, h)))
    else if ((xs i4.toNatClampNeg) &&& (63 : Int32)) = 19 then (if ab_in (i4 + (1 : Int32)) L = true then
    ((i1).bind fun q193 =>
    (f_X11_nail q193 (xs (i4 + (1 : Int32)).toNatClampNeg) h).bind fun w194 =>
    if ab_in (i4 + (1 : Int32)) L = true then
    ((i2).bind fun q196 =>
    (f_X12_nail q196 (xs (i4 + (1 : Int32)).toNatClampNeg) h).bind fun w197 =>
    if w194 = w197 then (f_L_law_l23 L xs n i1 i2 i3 (i4 + (6 : Int32)) h)
    else (some (0, h))) else none) else none)
    else if ((xs i4.toNatClampNeg) &&& (63 : Int32)) = 20 then (if ab_in (i4 + (1 : Int32)) L = true then
    (if ab_in (i4 + (2 : Int32)) L = true then
    (if ab_in (i4 + (3 : Int32)) L = true then
    ((i1).bind fun q203 =>
    (f_X11_byLaw q203 (xs (i4 + (1 : Int32)).toNatClampNeg) (xs (i4 + (2 : Int32)).toNatClampNeg) (xs (i4 + (3 : Int32)).toNatClampNeg) h).bind fun w204 =>
    if ab_in (i4 + (1 : Int32)) L = true then
    (if ab_in (i4 + (2 : Int32)) L = true then
    (if ab_in (i4 + (3 : Int32)) L = true then
    ((i2).bind fun q208 =>
    (f_X12_byLaw q208 (xs (i4 + (1 : Int32)).toNatClampNeg) (xs (i4 + (2 : Int32)).toNatClampNeg) (xs (i4 + (3 : Int32)).toNatClampNeg) w204.2).bind fun w209 =>
    if w204.1 = w209.1 then (f_L_law_l23 L xs n i1 i2 i3 (i4 + (6 : Int32)) w209.2)
    else (some (0, w209.2))) else none) else none) else none) else none) else none) else none)
    else if ((xs i4.toNatClampNeg) &&& (63 : Int32)) = 21 then (if ab_in (i4 + (1 : Int32)) L = true then
    (if ab_in (i4 + (2 : Int32)) L = true then
    (if ab_in (i4 + (3 : Int32)) L = true then
    ((i1).bind fun q215 =>
    (f_X11_seeded q215 (xs (i4 + (1 : Int32)).toNatClampNeg) (xs (i4 + (2 : Int32)).toNatClampNeg) (xs (i4 + (3 : Int32)).toNatClampNeg) h).bind fun w216 =>
    if ab_in (i4 + (1 : Int32)) L = true then
    (if ab_in (i4 + (2 : Int32)) L = true then
    (if ab_in (i4 + (3 : Int32)) L = true then
    ((i2).bind fun q220 =>
    (f_X12_seeded q220 (xs (i4 + (1 : Int32)).toNatClampNeg) (xs (i4 + (2 : Int32)).toNatClampNeg) (xs (i4 + (3 : Int32)).toNatClampNeg) w216.2).bind fun w221 =>
    if w216.1 = w221.1 then (f_L_law_l23 L xs n i1 i2 i3 (i4 + (6 : Int32)) w221.2)
    else (some (0, w221.2))) else none) else none) else none) else none) else none) else none)
    else if ((xs i4.toNatClampNeg) &&& (63 : Int32)) = 22 then (if ab_in (i4 + (1 : Int32)) L = true then
    (if ab_in (i4 + (2 : Int32)) L = true then
    (if ab_in (i4 + (3 : Int32)) L = true then
    ((i1).bind fun q227 =>
    (f_X11_judge q227 (xs (i4 + (1 : Int32)).toNatClampNeg) (xs (i4 + (2 : Int32)).toNatClampNeg) (xs (i4 + (3 : Int32)).toNatClampNeg) h).bind fun w228 =>
    if ab_in (i4 + (1 : Int32)) L = true then
    (if ab_in (i4 + (2 : Int32)) L = true then
    (if ab_in (i4 + (3 : Int32)) L = true then
    ((i2).bind fun q232 =>
    (f_X12_judge q232 (xs (i4 + (1 : Int32)).toNatClampNeg) (xs (i4 + (2 : Int32)).toNatClampNeg) (xs (i4 + (3 : Int32)).toNatClampNeg) w228.2).bind fun w233 =>
    if w228.1 = w233.1 then (f_L_law_l23 L xs n i1 i2 i3 (i4 + (6 : Int32)) w233.2)
    else (some (0, w233.2))) else none) else none) else none) else none) else none) else none)
    else if ((xs i4.toNatClampNeg) &&& (63 : Int32)) = 23 then ((i1).bind fun q236 =>
    (f_X11_image q236 h).bind fun w237 =>
    (i2).bind fun q238 =>
    (f_X12_image q238 w237.2).bind fun w239 =>
    if w237.1 = w239.1 then (f_L_law_l23 L xs n i1 i2 i3 (i4 + (6 : Int32)) w239.2)
    else (some (0, w239.2)))
    else if ((xs i4.toNatClampNeg) &&& (63 : Int32)) = 24 then ((i1).bind fun q242 =>
    (f_X11_restore q242 h).bind fun w243 =>
    (i2).bind fun q244 =>
    (f_X12_restore q244 w243.2).bind fun w245 =>
    if w243.1 = w245.1 then (f_L_law_l23 L xs n i1 i2 i3 (i4 + (6 : Int32)) w245.2)
    else (some (0, w245.2)))
    else if ((xs i4.toNatClampNeg) &&& (63 : Int32)) = 25 then (if ab_in (i4 + (1 : Int32)) L = true then
    ((i1).bind fun q249 =>
    (f_X11_count q249 (xs (i4 + (1 : Int32)).toNatClampNeg) h).bind fun w250 =>
    if ab_in (i4 + (1 : Int32)) L = true then
    ((i2).bind fun q252 =>
    (f_X12_count q252 (xs (i4 + (1 : Int32)).toNatClampNeg) h).bind fun w253 =>
    if w250 = w253 then (f_L_law_l23 L xs n i1 i2 i3 (i4 + (6 : Int32)) h)
    else (some (0, h))) else none) else none)
    else if ((xs i4.toNatClampNeg) &&& (63 : Int32)) = 26 then (if ab_in (i4 + (1 : Int32)) L = true then
    (if ab_in (i4 + (2 : Int32)) L = true then
    (if ab_in (i4 + (3 : Int32)) L = true then
    ((i1).bind fun q259 =>
    (f_X11_keep q259 (xs (i4 + (1 : Int32)).toNatClampNeg) (xs (i4 + (2 : Int32)).toNatClampNeg) (xs (i4 + (3 : Int32)).toNatClampNeg) h).bind fun w260 =>
    if ab_in (i4 + (1 : Int32)) L = true then
    (if ab_in (i4 + (2 : Int32)) L = true then
    (if ab_in (i4 + (3 : Int32)) L = true then
    ((i2).bind fun q264 =>
    (f_X12_keep q264 (xs (i4 + (1 : Int32)).toNatClampNeg) (xs (i4 + (2 : Int32)).toNatClampNeg) (xs (i4 + (3 : Int32)).toNatClampNeg) w260.2).bind fun w265 =>
    if w260.1 = w265.1 then (f_L_law_l23 L xs n i1 i2 i3 (i4 + (6 : Int32)) w265.2)
    else (some (0, w265.2))) else none) else none) else none) else none) else none) else none)
    else if ((xs i4.toNatClampNeg) &&& (63 : Int32)) = 27 then (if ab_in (i4 + (1 : Int32)) L = true then
    (if ab_in (i4 + (2 : Int32)) L = true then
    (if ab_in (i4 + (3 : Int32)) L = true then
    ((i1).bind fun q271 =>
    (f_X11_row q271 (xs (i4 + (1 : Int32)).toNatClampNeg) (xs (i4 + (2 : Int32)).toNatClampNeg) (xs (i4 + (3 : Int32)).toNatClampNeg) h).bind fun w272 =>
    if ab_in (i4 + (1 : Int32)) L = true then
    (if ab_in (i4 + (2 : Int32)) L = true then
    (if ab_in (i4 + (3 : Int32)) L = true then
    ((i2).bind fun q276 =>
    (f_X12_row q276 (xs (i4 + (1 : Int32)).toNatClampNeg) (xs (i4 + (2 : Int32)).toNatClampNeg) (xs (i4 + (3 : Int32)).toNatClampNeg) w272.2).bind fun w277 =>
    if w272.1 = w277.1 then (f_L_law_l23 L xs n i1 i2 i3 (i4 + (6 : Int32)) w277.2)
    else (some (0, w277.2))) else none) else none) else none) else none) else none) else none)
    else if ((xs i4.toNatClampNeg) &&& (63 : Int32)) = 28 then (if ab_in (i4 + (1 : Int32)) L = true then
    (if ab_in (i4 + (2 : Int32)) L = true then
    (if ab_in (i4 + (3 : Int32)) L = true then
    ((i1).bind fun q283 =>
    (f_X11_put q283 (xs (i4 + (1 : Int32)).toNatClampNeg) (xs (i4 + (2 : Int32)).toNatClampNeg) (xs (i4 + (3 : Int32)).toNatClampNeg) h).bind fun w284 =>
    if ab_in (i4 + (1 : Int32)) L = true then
    (if ab_in (i4 + (2 : Int32)) L = true then
    (if ab_in (i4 + (3 : Int32)) L = true then
    ((i2).bind fun q288 =>
    (f_X12_put q288 (xs (i4 + (1 : Int32)).toNatClampNeg) (xs (i4 + (2 : Int32)).toNatClampNeg) (xs (i4 + (3 : Int32)).toNatClampNeg) w284.2).bind fun w289 =>
    if w284.1 = w289.1 then (f_L_law_l23 L xs n i1 i2 i3 (i4 + (6 : Int32)) w289.2)
    else (some (0, w289.2))) else none) else none) else none) else none) else none) else none)
    else if ((xs i4.toNatClampNeg) &&& (63 : Int32)) = 29 then (if ab_in (i4 + (1 : Int32)) L = true then
    (if ab_in (i4 + (2 : Int32)) L = true then
    ((f_L_element i1 (xs (i4 + (1 : Int32)).toNatClampNeg) (xs (i4 + (2 : Int32)).toNatClampNeg) i3 h).bind fun w294 =>
    if ab_in (i4 + (1 : Int32)) L = true then
    (if ab_in (i4 + (2 : Int32)) L = true then
    ((i2).bind fun q297 =>
    (f_X12_element q297 (xs (i4 + (1 : Int32)).toNatClampNeg) (xs (i4 + (2 : Int32)).toNatClampNeg) w294.2).bind fun w298 =>
    (f_X12_thrown q297 w298.2).bind fun w299 =>
    if w299 = w294.1 then (if w294.1 = 0 then ((i3).bind fun q302 =>
    if ab_in 0 (ab_shp q302).2 = true then
    (if (lg_cmp (ab_l w298.2 q302 (0 : Int32).toNatClampNeg) w298.1) = 0 then (f_L_law_l23 L xs n i1 i2 i3 (i4 + (6 : Int32)) w298.2)
    else (some (0, w298.2))) else none)
    else (f_L_law_l23 L xs n i1 i2 i3 (i4 + (6 : Int32)) w298.2))
    else (some (0, w298.2))) else none) else none) else none) else none)
    else if ((xs i4.toNatClampNeg) &&& (63 : Int32)) = 30 then (if ab_in (i4 + (1 : Int32)) L = true then
    (if ab_in (i4 + (2 : Int32)) L = true then
    (if ab_in (i4 + (3 : Int32)) L = true then
    (if ab_in (i4 + (4 : Int32)) L = true then
    (if ab_in (i4 + (5 : Int32)) L = true then
    ((i1).bind fun q311 =>
    (f_X11_copy q311 (xs (i4 + (1 : Int32)).toNatClampNeg) (xs (i4 + (2 : Int32)).toNatClampNeg) (xs (i4 + (3 : Int32)).toNatClampNeg) (xs (i4 + (4 : Int32)).toNatClampNeg) (xs (i4 + (5 : Int32)).toNatClampNeg) h).bind fun w312 =>
    if ab_in (i4 + (1 : Int32)) L = true then
    (if ab_in (i4 + (2 : Int32)) L = true then
    (if ab_in (i4 + (3 : Int32)) L = true then
    (if ab_in (i4 + (4 : Int32)) L = true then
    (if ab_in (i4 + (5 : Int32)) L = true then
    ((i2).bind fun q318 =>
    (f_X12_copy q318 (xs (i4 + (1 : Int32)).toNatClampNeg) (xs (i4 + (2 : Int32)).toNatClampNeg) (xs (i4 + (3 : Int32)).toNatClampNeg) (xs (i4 + (4 : Int32)).toNatClampNeg) (xs (i4 + (5 : Int32)).toNatClampNeg) w312.2).bind fun w319 =>
    if w312.1 = w319.1 then (f_L_law_l23 L xs n i1 i2 i3 (i4 + (6 : Int32)) w319.2)
    else (some (0, w319.2))) else none) else none) else none) else none) else none) else none) else none) else none) else none) else none)
    else if ((xs i4.toNatClampNeg) &&& (63 : Int32)) = 31 then (if ab_in (i4 + (1 : Int32)) L = true then
    ((i1).bind fun q323 =>
    (f_X11_care q323 (xs (i4 + (1 : Int32)).toNatClampNeg) h).bind fun w324 =>
    if ab_in (i4 + (1 : Int32)) L = true then
    ((i2).bind fun q326 =>
    (f_X12_care q326 (xs (i4 + (1 : Int32)).toNatClampNeg) h).bind fun w327 =>
    if w324 = w327 then (f_L_law_l23 L xs n i1 i2 i3 (i4 + (6 : Int32)) h)
    else (some (0, h))) else none) else none)
    else if ((xs i4.toNatClampNeg) &&& (63 : Int32)) = 32 then (if ab_in (i4 + (1 : Int32)) L = true then
    ((i1).bind fun q331 =>
    (f_X11_toss q331 (xs (i4 + (1 : Int32)).toNatClampNeg) h).bind fun w332 =>
    if ab_in (i4 + (1 : Int32)) L = true then
    ((i2).bind fun q334 =>
    (f_X12_toss q334 (xs (i4 + (1 : Int32)).toNatClampNeg) w332.2).bind fun w335 =>
    if w332.1 = w335 then (f_L_law_l23 L xs n i1 i2 i3 (i4 + (6 : Int32)) w332.2)
    else (some (0, w332.2))) else none) else none)
    else (f_L_law_l23 L xs n i1 i2 i3 (i4 + (6 : Int32)) h)) else none)
def f_L_law (L : Nat) (xs : Nat → Int32) (h : ab_HP) : Option (Int32 × ab_HP) :=
    if (ab_shp h.1).1 = 0 then
    (ab_let (ab_nw h) fun h2 =>
    (f_X11_init h.1 h2).bind fun w3 =>
    if (ab_shp w3.1).1 = 5 then
    (ab_let (ab_nw w3) fun h5 =>
    (f_X12_init w3.1 h5).bind fun w6 =>
    if ab_shp w6.1 = (7, 1) then
    (ab_let (ab_nw w6) fun h8 =>
    f_L_law_l23 L xs 513 (some h.1) (some w3.1) (some w6.1) 0 h8) else none) else none) else none
