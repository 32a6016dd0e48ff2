def f_X9_copyFrom (σ : gM) (kt : Nat) (ko : Nat) : Option (gM) :=
  nm (rset σ (1 + 18 * kt + 2) (va_cpy (σ (1 + 18 * ko + 2)) (σ (1 + 18 * kt + 2)) 0 0 36)) fun σ1 =>
  nm (mset σ1 (1 + 18 * kt + 1) 4 (σ1 (1 + 18 * ko + 1) 4)) fun σ2 =>
  some σ2
def f_X8_copyFrom (σ : gM) (kt : Nat) (ko : Nat) : Option (gM) :=
  nm (rset σ (1 + 18 * kt + 7) (va_cpy (σ (1 + 18 * ko + 7)) (σ (1 + 18 * kt + 7)) 0 0 12)) fun σ1 =>
  nm (rset σ1 (1 + 18 * kt + 8) (va_cpy (σ1 (1 + 18 * ko + 8)) (σ1 (1 + 18 * kt + 8)) 0 0 12)) fun σ2 =>
  nm (rset σ2 (1 + 18 * kt + 9) (va_cpy (σ2 (1 + 18 * ko + 9)) (σ2 (1 + 18 * kt + 9)) 0 0 12)) fun σ3 =>
  nm (rset σ3 (1 + 18 * kt + 10) (va_cpy (σ3 (1 + 18 * ko + 10)) (σ3 (1 + 18 * kt + 10)) 0 0 12)) fun σ4 =>
  nm (rset σ4 (1 + 18 * kt + 11) (va_cpy (σ4 (1 + 18 * ko + 11)) (σ4 (1 + 18 * kt + 11)) 0 0 12)) fun σ5 =>
  nm (mset σ5 (1 + 18 * kt + 6) 5 (σ5 (1 + 18 * ko + 6) 5)) fun σ6 =>
  some σ6
def f_X6_copyFrom (σ : gM) (kt : Nat) (ko : Nat) : Option (gM) :=
  nm (rset σ (1 + 18 * kt + 13) (va_cpy (σ (1 + 18 * ko + 13)) (σ (1 + 18 * kt + 13)) 0 0 8)) fun σ1 =>
  nm (rset σ1 (1 + 18 * kt + 14) (va_cpy (σ1 (1 + 18 * ko + 14)) (σ1 (1 + 18 * kt + 14)) 0 0 8)) fun σ2 =>
  nm (mset σ2 (1 + 18 * kt + 12) 2 (σ2 (1 + 18 * ko + 12) 2)) fun σ3 =>
  nm (mset σ3 (1 + 18 * kt + 12) 3 (σ3 (1 + 18 * ko + 12) 3)) fun σ4 =>
  some σ4
def f_X11_copyFrom (σ : gM) (kt : Nat) (ko : Nat) : Option (gM) :=
  nm (rset σ (1 + 18 * kt + 16) (va_cpy (σ (1 + 18 * ko + 16)) (σ (1 + 18 * kt + 16)) 0 0 3)) fun σ1 =>
  nm (rset σ1 (1 + 18 * kt + 17) (va_cpy (σ1 (1 + 18 * ko + 17)) (σ1 (1 + 18 * kt + 17)) 0 0 3)) fun σ2 =>
  nm (mset σ2 (1 + 18 * kt + 15) 2 (σ2 (1 + 18 * ko + 15) 2)) fun σ3 =>
  some σ3
def f_X3_copyFrom (σ : gM) (kt : Nat) (ko : Nat) : Option (gM) :=
  bd (f_X9_copyFrom σ kt ko) fun σ2 =>
  bd (f_X8_copyFrom σ2 kt ko) fun σ4 =>
  bd (f_X6_copyFrom σ4 kt ko) fun σ6 =>
  bd (f_X11_copyFrom σ6 kt ko) fun σ8 =>
  some σ8
def f_X7_prepare (σ : gM) : Option (gM) :=
  gi (σ 199 1) 9 <|
  bd (f_X3_copyFrom σ ((σ 199 1).toNatClampNeg + 2) 0) fun σ3 =>
  some σ3
def f_X12_isIndex (σ : gM) (a1 : Int32) (a2 : Int32) : Option (Int32) :=
  if a1 < 0 then
    some 0
  else
    if a2 ≤ a1 then
      some 0
    else
      some 1
def f_X12_isWithin (σ : gM) (a1 : Int32) (a2 : Int32) (a3 : Int32) : Option (Int32) :=
  if a1 < a2 then
    some 0
  else
    if a3 < a1 then
      some 0
    else
      some 1
def f_X9_joins (σ : gM) (a1 : Int32) (a2 : Int32) : Option (Int32) :=
  gi ((a1 * 6) + a2) 36 <|
  if (σ 3 ((a1 * 6) + a2).toNatClampNeg) ≤ 0 then
    some 0
  else
    some 1
def f_X9_join (σ : gM) (a1 : Int32) (a2 : Int32) (a3 : Int32) : Option (Int32 × gM) :=
  gi ((a1 * 6) + a2) 36 <|
  nm (mset σ 3 (((a1 * 6) + a2).toNatClampNeg) a3) fun σ2 =>
  gi ((a2 * 6) + a1) 36 <|
  nm (mset σ2 3 (((a2 * 6) + a1).toNatClampNeg) a3) fun σ4 =>
  nm (mset σ4 2 4 ((σ4 2 4) + 1)) fun σ5 =>
  some (σ5 2 4, σ5)
def f_X3_joinPlaces (σ : gM) (a1 : Int32) (a2 : Int32) (a3 : Int32) : Option (Int32 × gM) :=
  bd (f_X12_isIndex σ a1 6) fun r2 =>
  if r2 = 0 then
    some ((-2), σ)
  else
    bd (f_X12_isIndex σ a2 6) fun r5 =>
    if r5 = 0 then
      some ((-2), σ)
    else
      if a1 = a2 then
        some ((-3), σ)
      else
        bd (f_X12_isWithin σ a3 1 20) fun r9 =>
        if r9 = 0 then
          some ((-3), σ)
        else
          bd (f_X9_joins σ a1 a2) fun r12 =>
          if r12 = 0 then
            bd2 (f_X9_join σ a1 a2 a3) fun r15 σ16 =>
            some (r15, σ16)
          else
            some ((-4), σ)
def f_X12_accepted (σ : gM) (a1 : Int32) : Option ((Int32) ⊕ (Nat)) :=
  if a1 = (-6) then
    some (.inr 4)
  else
    if a1 = (-5) then
      some (.inr 3)
    else
      if a1 = (-4) then
        some (.inr 2)
      else
        if a1 = (-3) then
          some (.inr 1)
        else
          if a1 = (-2) then
            some (.inr 0)
          else
            some (.inl a1)
def f_X7_keep (σ : gM) : Option (gM) :=
  nm (mset σ 199 1 (((σ 199 1) + 1) - ((σ 199 1) + 1) / 9 * 9)) fun σ1 =>
  nm (mset σ1 199 2 (if 8 < ((σ1 199 2) + 1) then 8 else ((σ1 199 2) + 1))) fun σ2 =>
  some σ2
def f_X12_recorded (σ : gM) (a1 : Int32) : Option ((Int32 × gM) ⊕ (Nat × gM)) :=
  bt (f_X12_accepted σ a1)
    (fun r2 =>
      bd (f_X7_keep σ) fun σ5 =>
      some (.inl (r2, σ5)))
    (fun n3 => some (.inr (n3, σ)))
def f_X12_buildRoad (σ : gM) (a1 : Int32) (a2 : Int32) (a3 : Int32) : Option ((Int32 × gM) ⊕ (Nat × gM)) :=
  bd (f_X7_prepare σ) fun σ2 =>
  bd2 (f_X3_joinPlaces σ2 a1 a2 a3) fun r4 σ5 =>
  bt2 (f_X12_recorded σ5 r4)
    (fun r7 σ8 =>
      some (.inl (r7, σ8)))
    (fun n9 σ8 => some (.inr (n9, σ8)))
def f_X8_isFull (σ : gM) : Option (Int32) :=
  if (σ 7 5) < 12 then
    some 0
  else
    some 1
def f_X8_add (σ : gM) (a1 : Int32) (a2 : Int32) (a3 : Int32) : Option (Int32 × gM) :=
  nm (σ 7 5) fun x1 =>
  gi x1 12 <|
  nm (mset σ 8 x1.toNatClampNeg a1) fun σ3 =>
  gi x1 12 <|
  nm (mset σ3 9 x1.toNatClampNeg a2) fun σ5 =>
  gi x1 12 <|
  nm (mset σ5 10 x1.toNatClampNeg a3) fun σ7 =>
  gi x1 12 <|
  nm (mset σ7 11 x1.toNatClampNeg (-1)) fun σ9 =>
  gi x1 12 <|
  nm (mset σ9 12 x1.toNatClampNeg 0) fun σ11 =>
  nm (mset σ11 7 5 ((σ11 7 5) + 1)) fun σ12 =>
  some (x1, σ12)
def f_X3_addParcel (σ : gM) (a1 : Int32) (a2 : Int32) (a3 : Int32) : Option (Int32 × gM) :=
  bd (f_X12_isIndex σ a3 6) fun r2 =>
  if r2 = 0 then
    some ((-2), σ)
  else
    bd (f_X12_isWithin σ a1 1 20) fun r5 =>
    if r5 = 0 then
      some ((-3), σ)
    else
      bd (f_X12_isWithin σ a2 0 3) fun r8 =>
      if r8 = 0 then
        some ((-3), σ)
      else
        bd (f_X8_isFull σ) fun r11 =>
        if r11 = 0 then
          bd2 (f_X8_add σ a1 a2 a3) fun r14 σ15 =>
          some (r14, σ15)
        else
          some ((-4), σ)
def f_X12_acceptParcel (σ : gM) (a1 : Int32) (a2 : Int32) (a3 : Int32) : Option ((Int32 × gM) ⊕ (Nat × gM)) :=
  bd (f_X7_prepare σ) fun σ2 =>
  bd2 (f_X3_addParcel σ2 a1 a2 a3) fun r4 σ5 =>
  bt2 (f_X12_recorded σ5 r4)
    (fun r7 σ8 =>
      some (.inl (r7, σ8)))
    (fun n9 σ8 => some (.inr (n9, σ8)))
def f_X6_isFull (σ : gM) : Option (Int32) :=
  if (σ 13 2) < 8 then
    some 0
  else
    some 1
def f_X6_add (σ : gM) (a1 : Int32) : Option (Int32 × gM) :=
  nm (σ 13 2) fun x1 =>
  gi x1 8 <|
  nm (mset σ 14 x1.toNatClampNeg a1) fun σ3 =>
  gi x1 8 <|
  nm (mset σ3 15 x1.toNatClampNeg 3) fun σ5 =>
  nm (mset σ5 13 2 ((σ5 13 2) + 1)) fun σ6 =>
  some (x1, σ6)
def f_X3_addGlove (σ : gM) (a1 : Int32) : Option (Int32 × gM) :=
  bd (f_X12_isWithin σ a1 1 3) fun r2 =>
  if r2 = 0 then
    some ((-3), σ)
  else
    bd (f_X6_isFull σ) fun r5 =>
    if r5 = 0 then
      bd2 (f_X6_add σ a1) fun r8 σ9 =>
      some (r8, σ9)
    else
      some ((-4), σ)
def f_X12_buyGlove (σ : gM) (a1 : Int32) : Option ((Int32 × gM) ⊕ (Nat × gM)) :=
  bd (f_X7_prepare σ) fun σ2 =>
  bd2 (f_X3_addGlove σ2 a1) fun r4 σ5 =>
  bt2 (f_X12_recorded σ5 r4)
    (fun r7 σ8 =>
      some (.inl (r7, σ8)))
    (fun n9 σ8 => some (.inr (n9, σ8)))
def f_X8_weightAt_L4 (p1 : Int32) (σ : gM) : Nat → Int32 → Int32 → Option (Int32)
  | 0, _, _ => none
  | n + 1, v2, v3 =>
    if (σ 7 5) ≤ v3 then
      some v2
    else
      gi v3 12 <|
      if (σ 11 v3.toNatClampNeg) = p1 then
        gi v3 12 <|
        nm (v2 + (σ 8 v3.toNatClampNeg)) fun x6 =>
        nm (v3 + 1) fun x7 =>
        f_X8_weightAt_L4 p1 σ n x6 x7
      else
        nm (v3 + 1) fun x4 =>
        f_X8_weightAt_L4 p1 σ n v2 x4
def f_X8_weightAt (σ : gM) (a1 : Int32) : Option (Int32) :=
  bd (f_X8_weightAt_L4 a1 σ gFU 0 0) fun y9 =>
  some y9
def f_X11_resize (σ : gM) (a1 : Int32) (a2 : Int32) : Option (Int32 × gM) :=
  gi a1 3 <|
  nm (σ 18 a1.toNatClampNeg) fun x2 =>
  gi a1 3 <|
  nm (mset σ 18 a1.toNatClampNeg a2) fun σ4 =>
  some (x2, σ4)
def f_X3_changeCapacity (σ : gM) (a1 : Int32) (a2 : Int32) : Option (Int32 × gM) :=
  bd (f_X12_isIndex σ a1 3) fun r2 =>
  if r2 = 0 then
    some ((-2), σ)
  else
    bd (f_X12_isWithin σ a2 1 60) fun r5 =>
    if r5 = 0 then
      some ((-3), σ)
    else
      bd (f_X8_weightAt σ a1) fun r8 =>
      if r8 ≤ a2 then
        bd2 (f_X11_resize σ a1 a2) fun r11 σ12 =>
        some (r11, σ12)
      else
        some ((-4), σ)
def f_X12_setCapacity (σ : gM) (a1 : Int32) (a2 : Int32) : Option ((Int32 × gM) ⊕ (Nat × gM)) :=
  bd (f_X7_prepare σ) fun σ2 =>
  bd2 (f_X3_changeCapacity σ2 a1 a2) fun r4 σ5 =>
  bt2 (f_X12_recorded σ5 r4)
    (fun r7 σ8 =>
      some (.inl (r7, σ8)))
    (fun n9 σ8 => some (.inr (n9, σ8)))
def f_X8_size (σ : gM) : Option (Int32) :=
  some (σ 7 5)
def f_X8_whereIs (σ : gM) (a1 : Int32) : Option (Int32) :=
  gi a1 12 <|
  some (σ 11 a1.toNatClampNeg)
def f_X8_weightOf (σ : gM) (a1 : Int32) : Option (Int32) :=
  gi a1 12 <|
  some (σ 8 a1.toNatClampNeg)
def f_X11_capacityOf (σ : gM) (a1 : Int32) : Option (Int32) :=
  gi a1 3 <|
  some (σ 18 a1.toNatClampNeg)
def f_X3_roomIn (σ : gM) (a1 : Int32) : Option (Int32) :=
  bd (f_X11_capacityOf σ a1) fun r2 =>
  bd (f_X8_weightAt σ a1) fun r4 =>
  some (r2 - r4)
def f_X8_hazardOf (σ : gM) (a1 : Int32) : Option (Int32) :=
  gi a1 12 <|
  some (σ 9 a1.toNatClampNeg)
def f_X6_isPreferred (σ : gM) (a1 : Int32) (a2 : Int32) : Option (Int32) :=
  gi a1 8 <|
  gi a2 8 <|
  if (σ 14 a1.toNatClampNeg) = (σ 14 a2.toNatClampNeg) then
    gi a1 8 <|
    gi a2 8 <|
    if (σ 15 a2.toNatClampNeg) ≤ (σ 15 a1.toNatClampNeg) then
      some 0
    else
      some 1
  else
    gi a1 8 <|
    gi a2 8 <|
    if (σ 14 a2.toNatClampNeg) ≤ (σ 14 a1.toNatClampNeg) then
      some 0
    else
      some 1
def f_X6_bestAgainst_L4 (p1 : Int32) (σ : gM) : Nat → Int32 → Int32 → Option (Int32)
  | 0, _, _ => none
  | n + 1, v2, v3 =>
    if (σ 13 2) ≤ v3 then
      some v2
    else
      gi v3 8 <|
      if (σ 14 v3.toNatClampNeg) < p1 then
        nm (v3 + 1) fun x4 =>
        f_X6_bestAgainst_L4 p1 σ n v2 x4
      else
        if v2 = (-1) then
          nm (v3 + 1) fun x6 =>
          f_X6_bestAgainst_L4 p1 σ n v3 x6
        else
          bd (f_X6_isPreferred σ v3 v2) fun r8 =>
          if r8 = 0 then
            nm (v3 + 1) fun x10 =>
            f_X6_bestAgainst_L4 p1 σ n v2 x10
          else
            nm (v3 + 1) fun x11 =>
            f_X6_bestAgainst_L4 p1 σ n v3 x11
def f_X6_bestAgainst (σ : gM) (a1 : Int32) : Option (Int32) :=
  bd (f_X6_bestAgainst_L4 a1 σ gFU (-1) 0) fun y13 =>
  some y13
def f_X3_isSafe (σ : gM) (a1 : Int32) : Option (Int32) :=
  bd (f_X8_hazardOf σ a1) fun r2 =>
  if r2 = 0 then
    some 1
  else
    bd (f_X6_bestAgainst σ r2) fun r5 =>
    if r5 = (-1) then
      some 0
    else
      some 1
def f_X6_remove_L12  : Nat → Int32 → gM → Option (gM)
  | 0, _, _ => none
  | n + 1, v2, σ =>
    if (σ 13 2) ≤ v2 then
      some σ
    else
      gi (v2 + 1) 8 <|
      gi v2 8 <|
      nm (mset σ 14 v2.toNatClampNeg (σ 14 (v2 + 1).toNatClampNeg)) fun σ5 =>
      gi (v2 + 1) 8 <|
      gi v2 8 <|
      nm (mset σ5 15 v2.toNatClampNeg (σ5 15 (v2 + 1).toNatClampNeg)) fun σ8 =>
      nm (v2 + 1) fun x9 =>
      f_X6_remove_L12 n x9 σ8
def f_X6_remove (σ : gM) (a1 : Int32) : Option (gM) :=
  nm (mset σ 13 2 ((σ 13 2) - 1)) fun σ1 =>
  bd (f_X6_remove_L12 gFU a1 σ1) fun σ11 =>
  some σ11
def f_X6_useAgainst (σ : gM) (a1 : Int32) : Option (gM) :=
  if a1 = 0 then
    some σ
  else
    bd (f_X6_bestAgainst σ a1) fun r3 =>
    if r3 = (-1) then
      some σ
    else
      gi r3 8 <|
      gi r3 8 <|
      nm (mset σ 15 r3.toNatClampNeg ((σ 15 r3.toNatClampNeg) - 1)) fun σ7 =>
      gi r3 8 <|
      if (σ7 15 r3.toNatClampNeg) = 0 then
        bd (f_X6_remove σ7 r3) fun σ11 =>
        nm (mset σ11 13 3 ((σ11 13 3) + 1)) fun σ12 =>
        some σ12
      else
        some σ7
def f_X8_move (σ : gM) (a1 : Int32) (a2 : Int32) : Option (gM) :=
  gi a1 12 <|
  nm (mset σ 11 a1.toNatClampNeg a2) fun σ2 =>
  some σ2
def f_X3_putIn (σ : gM) (a1 : Int32) (a2 : Int32) : Option (Int32 × gM) :=
  bd (f_X8_size σ) fun r2 =>
  bd (f_X12_isIndex σ a1 r2) fun r4 =>
  if r4 = 0 then
    some ((-2), σ)
  else
    bd (f_X12_isIndex σ a2 3) fun r7 =>
    if r7 = 0 then
      some ((-2), σ)
    else
      bd (f_X8_whereIs σ a1) fun r10 =>
      if r10 = (-1) then
        bd (f_X8_weightOf σ a1) fun r13 =>
        bd (f_X3_roomIn σ a2) fun r15 =>
        if r13 ≤ r15 then
          bd (f_X3_isSafe σ a1) fun r18 =>
          if r18 = 0 then
            some ((-6), σ)
          else
            bd (f_X8_hazardOf σ a1) fun r21 =>
            bd (f_X6_useAgainst σ r21) fun σ23 =>
            bd (f_X8_move σ23 a1 a2) fun σ25 =>
            bd (f_X8_weightAt σ25 a2) fun r27 =>
            some (r27, σ25)
        else
          some ((-5), σ)
      else
        some ((-4), σ)
def f_X12_put (σ : gM) (a1 : Int32) (a2 : Int32) : Option ((Int32 × gM) ⊕ (Nat × gM)) :=
  bd (f_X7_prepare σ) fun σ2 =>
  bd2 (f_X3_putIn σ2 a1 a2) fun r4 σ5 =>
  bt2 (f_X12_recorded σ5 r4)
    (fun r7 σ8 =>
      some (.inl (r7, σ8)))
    (fun n9 σ8 => some (.inr (n9, σ8)))
def f_X3_pullOut (σ : gM) (a1 : Int32) : Option (Int32 × gM) :=
  bd (f_X8_size σ) fun r2 =>
  bd (f_X12_isIndex σ a1 r2) fun r4 =>
  if r4 = 0 then
    some ((-2), σ)
  else
    bd (f_X8_whereIs σ a1) fun r7 =>
    bd (f_X12_isIndex σ r7 3) fun r9 =>
    if r9 = 0 then
      some ((-4), σ)
    else
      bd (f_X3_isSafe σ a1) fun r12 =>
      if r12 = 0 then
        some ((-6), σ)
      else
        bd (f_X8_hazardOf σ a1) fun r15 =>
        bd (f_X6_useAgainst σ r15) fun σ17 =>
        bd (f_X8_move σ17 a1 (-1)) fun σ19 =>
        some (r7, σ19)
def f_X12_takeOut (σ : gM) (a1 : Int32) : Option ((Int32 × gM) ⊕ (Nat × gM)) :=
  bd (f_X7_prepare σ) fun σ2 =>
  bd2 (f_X3_pullOut σ2 a1) fun r4 σ5 =>
  bt2 (f_X12_recorded σ5 r4)
    (fun r7 σ8 =>
      some (.inl (r7, σ8)))
    (fun n9 σ8 => some (.inr (n9, σ8)))
def f_X11_placeOf (σ : gM) (a1 : Int32) : Option (Int32) :=
  gi a1 3 <|
  some (σ 17 a1.toNatClampNeg)
def f_X9_nearestOpen_L4  (σ : gM) : Nat → Int32 → Int32 → Option (Int32)
  | 0, _, _ => none
  | n + 1, v1, v2 =>
    if 6 ≤ v2 then
      some v1
    else
      gi v2 6 <|
      if (σ 4 v2.toNatClampNeg) = (-1) then
        nm (v2 + 1) fun x4 =>
        f_X9_nearestOpen_L4 σ n v1 x4
      else
        gi v2 6 <|
        if (σ 5 v2.toNatClampNeg) = 0 then
          if v1 = (-1) then
            nm (v2 + 1) fun x9 =>
            f_X9_nearestOpen_L4 σ n v2 x9
          else
            gi v2 6 <|
            gi v1 6 <|
            if (σ 4 v1.toNatClampNeg) ≤ (σ 4 v2.toNatClampNeg) then
              nm (v2 + 1) fun x13 =>
              f_X9_nearestOpen_L4 σ n v1 x13
            else
              nm (v2 + 1) fun x14 =>
              f_X9_nearestOpen_L4 σ n v2 x14
        else
          nm (v2 + 1) fun x7 =>
          f_X9_nearestOpen_L4 σ n v1 x7
def f_X9_nearestOpen (σ : gM) : Option (Int32) :=
  bd (f_X9_nearestOpen_L4 σ gFU (-1) 0) fun y16 =>
  some y16
def f_X9_goOnFrom_L2 (p1 : Int32) : Nat → Int32 → gM → Option (gM)
  | 0, _, _ => none
  | n + 1, v2, σ =>
    if 6 ≤ v2 then
      some σ
    else
      gi ((p1 * 6) + v2) 36 <|
      nm (σ 3 ((p1 * 6) + v2).toNatClampNeg) fun x3 =>
      gi p1 6 <|
      nm ((σ 4 p1.toNatClampNeg) + x3) fun x5 =>
      if x3 ≤ 0 then
        nm (v2 + 1) fun x7 =>
        f_X9_goOnFrom_L2 p1 n x7 σ
      else
        gi v2 6 <|
        if (σ 4 v2.toNatClampNeg) = (-1) then
          gi v2 6 <|
          nm (mset σ 4 v2.toNatClampNeg x5) fun σ11 =>
          nm (v2 + 1) fun x12 =>
          f_X9_goOnFrom_L2 p1 n x12 σ11
        else
          gi v2 6 <|
          if (σ 4 v2.toNatClampNeg) ≤ x5 then
            nm (v2 + 1) fun x15 =>
            f_X9_goOnFrom_L2 p1 n x15 σ
          else
            gi v2 6 <|
            nm (mset σ 4 v2.toNatClampNeg x5) fun σ17 =>
            nm (v2 + 1) fun x18 =>
            f_X9_goOnFrom_L2 p1 n x18 σ17
def f_X9_goOnFrom (σ : gM) (a1 : Int32) : Option (gM) :=
  bd (f_X9_goOnFrom_L2 a1 gFU 0 σ) fun σ20 =>
  some σ20
def f_X9_measureFrom_L2 (p1 : Int32) : Nat → Int32 → gM → Option (gM)
  | 0, _, _ => none
  | n + 1, v2, σ =>
    if 6 ≤ v2 then
      some σ
    else
      gi v2 6 <|
      nm (mset σ 4 v2.toNatClampNeg (-1)) fun σ3 =>
      gi v2 6 <|
      nm (mset σ3 5 v2.toNatClampNeg (vp_nar .boolean 0)) fun σ5 =>
      nm (v2 + 1) fun x6 =>
      f_X9_measureFrom_L2 p1 n x6 σ5
def f_X9_measureFrom_L37  : Nat → Int32 → gM → Option ((gM) ⊕ (gM))
  | 0, _, _ => none
  | n + 1, v2, σ =>
    if 6 ≤ v2 then
      some (.inr σ)
    else
      bd (f_X9_nearestOpen σ) fun r13 =>
      if r13 = (-1) then
        some (.inl σ)
      else
        gi r13 6 <|
        nm (mset σ 5 r13.toNatClampNeg (vp_nar .boolean 1)) fun σ16 =>
        bd (f_X9_goOnFrom σ16 r13) fun σ18 =>
        nm (v2 + 1) fun x19 =>
        f_X9_measureFrom_L37 n x19 σ18
def f_X9_measureFrom (σ : gM) (a1 : Int32) : Option (gM) :=
  bd (f_X9_measureFrom_L2 a1 gFU 0 σ) fun σ8 =>
  gi a1 6 <|
  nm (mset σ8 4 a1.toNatClampNeg 0) fun σ10 =>
  gs2 (f_X9_measureFrom_L37 gFU 0 σ10)
    (fun σ21 =>
      some σ21)
    (fun σ22 =>
      some σ22)
def f_X9_shortest (σ : gM) (a1 : Int32) (a2 : Int32) : Option (Int32 × gM) :=
  bd (f_X9_measureFrom σ a1) fun σ2 =>
  gi a2 6 <|
  some (σ2 4 a2.toNatClampNeg, σ2)
def f_X11_move (σ : gM) (a1 : Int32) (a2 : Int32) (a3 : Int32) : Option (gM) :=
  gi a1 3 <|
  nm (mset σ 17 a1.toNatClampNeg a2) fun σ2 =>
  nm (mset σ2 16 2 ((σ2 16 2) + a3)) fun σ3 =>
  some σ3
def f_X8_deliverFrom_L5 (p1 : Int32) (p2 : Int32) : Nat → Int32 → Int32 → gM → Option (Int32 × gM)
  | 0, _, _, _ => none
  | n + 1, v3, v4, σ =>
    if (σ 7 5) ≤ v4 then
      some (v3, σ)
    else
      gi v4 12 <|
      if (σ 11 v4.toNatClampNeg) = p1 then
        gi v4 12 <|
        if (σ 10 v4.toNatClampNeg) = p2 then
          gi v4 12 <|
          nm (mset σ 11 v4.toNatClampNeg (-2)) fun σ9 =>
          nm (v3 + 1) fun x10 =>
          nm (v4 + 1) fun x11 =>
          f_X8_deliverFrom_L5 p1 p2 n x10 x11 σ9
        else
          nm (v4 + 1) fun x7 =>
          f_X8_deliverFrom_L5 p1 p2 n v3 x7 σ
      else
        nm (v4 + 1) fun x4 =>
        f_X8_deliverFrom_L5 p1 p2 n v3 x4 σ
def f_X8_deliverFrom (σ : gM) (a1 : Int32) (a2 : Int32) : Option (Int32 × gM) :=
  bd2 (f_X8_deliverFrom_L5 a1 a2 gFU 0 0 σ) fun y13 σ14 =>
  some (y13, σ14)
def f_X3_bring (σ : gM) (a1 : Int32) (a2 : Int32) : Option (Int32 × gM) :=
  bd (f_X12_isIndex σ a1 3) fun r2 =>
  if r2 = 0 then
    some ((-2), σ)
  else
    bd (f_X12_isIndex σ a2 6) fun r5 =>
    if r5 = 0 then
      some ((-2), σ)
    else
      bd (f_X11_placeOf σ a1) fun r8 =>
      if r8 = a2 then
        some ((-3), σ)
      else
        bd (f_X11_placeOf σ a1) fun r11 =>
        bd2 (f_X9_shortest σ r11 a2) fun r13 σ14 =>
        if r13 = (-1) then
          some ((-6), σ14)
        else
          bd (f_X8_weightAt σ14 a1) fun r17 =>
          bd (f_X11_move σ14 a1 a2 (r13 * r17)) fun σ19 =>
          bd2 (f_X8_deliverFrom σ19 a1 a2) fun r21 σ22 =>
          some (r21, σ22)
def f_X12_carry (σ : gM) (a1 : Int32) (a2 : Int32) : Option ((Int32 × gM) ⊕ (Nat × gM)) :=
  bd (f_X7_prepare σ) fun σ2 =>
  bd2 (f_X3_bring σ2 a1 a2) fun r4 σ5 =>
  bt2 (f_X12_recorded σ5 r4)
    (fun r7 σ8 =>
      some (.inl (r7, σ8)))
    (fun n9 σ8 => some (.inr (n9, σ8)))
def f_X8_returnToDepot (σ : gM) (a1 : Int32) : Option (Int32 × gM) :=
  gi a1 12 <|
  nm (mset σ 11 a1.toNatClampNeg (-1)) fun σ2 =>
  gi a1 12 <|
  gi a1 12 <|
  nm (mset σ2 12 a1.toNatClampNeg ((σ2 12 a1.toNatClampNeg) + 1)) fun σ5 =>
  gi a1 12 <|
  if 3 ≤ (σ5 9 a1.toNatClampNeg) then
    gi a1 12 <|
    some (σ5 9 a1.toNatClampNeg, σ5)
  else
    gi a1 12 <|
    gi a1 12 <|
    nm (mset σ5 9 a1.toNatClampNeg ((σ5 9 a1.toNatClampNeg) + 1)) fun σ11 =>
    gi a1 12 <|
    some (σ11 9 a1.toNatClampNeg, σ11)
def f_X3_takeBack (σ : gM) (a1 : Int32) : Option (Int32 × gM) :=
  bd (f_X8_size σ) fun r2 =>
  bd (f_X12_isIndex σ a1 r2) fun r4 =>
  if r4 = 0 then
    some ((-2), σ)
  else
    bd (f_X8_whereIs σ a1) fun r7 =>
    if r7 = (-2) then
      bd2 (f_X8_returnToDepot σ a1) fun r10 σ11 =>
      some (r10, σ11)
    else
      some ((-4), σ)
def f_X12_comeBack (σ : gM) (a1 : Int32) : Option ((Int32 × gM) ⊕ (Nat × gM)) :=
  bd (f_X7_prepare σ) fun σ2 =>
  bd2 (f_X3_takeBack σ2 a1) fun r4 σ5 =>
  bt2 (f_X12_recorded σ5 r4)
    (fun r7 σ8 =>
      some (.inl (r7, σ8)))
    (fun n9 σ8 => some (.inr (n9, σ8)))
def f_X9_size (σ : gM) : Option (Int32) :=
  some (σ 2 4)
def f_X12_roadCount (σ : gM) : Option (Int32) :=
  bd (f_X9_size σ) fun r2 =>
  some r2
def f_X12_requireIndex (σ : gM) (a1 : Int32) (a2 : Int32) : Option ((Unit) ⊕ (Nat)) :=
  bd (f_X12_isIndex σ a1 a2) fun r2 =>
  if r2 = 0 then
    some (.inr 0)
  else
    some (.inl ())
def f_X12_requirePlaces (σ : gM) (a1 : Int32) (a2 : Int32) : Option ((Unit) ⊕ (Nat)) :=
  bt (f_X12_requireIndex σ a1 6)
    (fun u =>
      bt (f_X12_requireIndex σ a2 6)
        (fun u =>
          some (.inl ()))
        (fun n4 => some (.inr n4)))
    (fun n2 => some (.inr n2))
def f_X9_lengthBetween (σ : gM) (a1 : Int32) (a2 : Int32) : Option (Int32) :=
  bd (f_X9_joins σ a1 a2) fun r2 =>
  if r2 = 0 then
    some (-1)
  else
    gi ((a1 * 6) + a2) 36 <|
    some (σ 3 ((a1 * 6) + a2).toNatClampNeg)
def f_X12_present (σ : gM) (a1 : Int32) : Option ((Int32) ⊕ (Nat)) :=
  if a1 = (-1) then
    bt (f_X12_accepted σ (-6))
      (fun r6 =>
        some (.inl r6))
      (fun n7 => some (.inr n7))
  else
    bt (f_X12_accepted σ a1)
      (fun r3 =>
        some (.inl r3))
      (fun n4 => some (.inr n4))
def f_X12_roadLength (σ : gM) (a1 : Int32) (a2 : Int32) : Option ((Int32) ⊕ (Nat)) :=
  bt (f_X12_requirePlaces σ a1 a2)
    (fun u =>
      bd (f_X9_lengthBetween σ a1 a2) fun r4 =>
      bt (f_X12_present σ r4)
        (fun r6 =>
          some (.inl r6))
        (fun n7 => some (.inr n7)))
    (fun n2 => some (.inr n2))
def f_X12_distance (σ : gM) (a1 : Int32) (a2 : Int32) : Option ((Int32 × gM) ⊕ (Nat × gM)) :=
  bt (f_X12_requirePlaces σ a1 a2)
    (fun u =>
      bd2 (f_X9_shortest σ a1 a2) fun r4 σ5 =>
      bt (f_X12_present σ5 r4)
        (fun r7 =>
          some (.inl (r7, σ5)))
        (fun n8 => some (.inr (n8, σ5))))
    (fun n2 => some (.inr (n2, σ)))
def f_X9_shortenBy (σ : gM) (a1 : Int32) (a2 : Int32) (a3 : Int32) : Option (gM) :=
  gi ((a1 * 6) + a2) 36 <|
  nm (σ 6 ((a1 * 6) + a2).toNatClampNeg) fun x2 =>
  gi ((a2 * 6) + a3) 36 <|
  nm (σ 6 ((a2 * 6) + a3).toNatClampNeg) fun x4 =>
  if x2 = (-1) then
    some σ
  else
    if x4 = (-1) then
      some σ
    else
      gi ((a1 * 6) + a3) 36 <|
      nm (σ 6 ((a1 * 6) + a3).toNatClampNeg) fun x8 =>
      if x8 = (-1) then
        gi ((a1 * 6) + a3) 36 <|
        nm (mset σ 6 (((a1 * 6) + a3).toNatClampNeg) (x2 + x4)) fun σ11 =>
        some σ11
      else
        if x8 ≤ (x2 + x4) then
          some σ
        else
          gi ((a1 * 6) + a3) 36 <|
          nm (mset σ 6 (((a1 * 6) + a3).toNatClampNeg) (x2 + x4)) fun σ14 =>
          some σ14
def f_X9_measureByRounds_L10 (p1 : Int32) : Nat → Int32 → gM → Option (gM)
  | 0, _, _ => none
  | n + 1, v2, σ =>
    if 6 ≤ v2 then
      some σ
    else
      if p1 = v2 then
        gi ((p1 * 6) + v2) 36 <|
        nm (mset σ 6 (((p1 * 6) + v2).toNatClampNeg) 0) fun σ10 =>
        nm (v2 + 1) fun x11 =>
        f_X9_measureByRounds_L10 p1 n x11 σ10
      else
        bd (f_X9_lengthBetween σ p1 v2) fun r5 =>
        gi ((p1 * 6) + v2) 36 <|
        nm (mset σ 6 (((p1 * 6) + v2).toNatClampNeg) r5) fun σ7 =>
        nm (v2 + 1) fun x8 =>
        f_X9_measureByRounds_L10 p1 n x8 σ7
def f_X9_measureByRounds_L2  : Nat → Int32 → gM → Option (gM)
  | 0, _, _ => none
  | n + 1, v1, σ =>
    if 6 ≤ v1 then
      some σ
    else
      bd (f_X9_measureByRounds_L10 v1 gFU 0 σ) fun σ13 =>
      nm (v1 + 1) fun x14 =>
      f_X9_measureByRounds_L2 n x14 σ13
def f_X9_measureByRounds_L72 (p1 : Int32) (p2 : Int32) : Nat → Int32 → gM → Option (gM)
  | 0, _, _ => none
  | n + 1, v3, σ =>
    if 6 ≤ v3 then
      some σ
    else
      bd (f_X9_shortenBy σ p2 p1 v3) fun σ21 =>
      nm (v3 + 1) fun x22 =>
      f_X9_measureByRounds_L72 p1 p2 n x22 σ21
def f_X9_measureByRounds_L64 (p1 : Int32) : Nat → Int32 → gM → Option (gM)
  | 0, _, _ => none
  | n + 1, v2, σ =>
    if 6 ≤ v2 then
      some σ
    else
      bd (f_X9_measureByRounds_L72 p1 v2 gFU 0 σ) fun σ24 =>
      nm (v2 + 1) fun x25 =>
      f_X9_measureByRounds_L64 p1 n x25 σ24
def f_X9_measureByRounds_L56  : Nat → Int32 → gM → Option (gM)
  | 0, _, _ => none
  | n + 1, v1, σ =>
    if 6 ≤ v1 then
      some σ
    else
      bd (f_X9_measureByRounds_L64 v1 gFU 0 σ) fun σ27 =>
      nm (v1 + 1) fun x28 =>
      f_X9_measureByRounds_L56 n x28 σ27
def f_X9_measureByRounds (σ : gM) : Option (gM) :=
  bd (f_X9_measureByRounds_L2 gFU 0 σ) fun σ16 =>
  bd (f_X9_measureByRounds_L56 gFU 0 σ16) fun σ30 =>
  some σ30
def f_X9_measuredByRounds (σ : gM) (a1 : Int32) (a2 : Int32) : Option (Int32) :=
  gi ((a1 * 6) + a2) 36 <|
  some (σ 6 ((a1 * 6) + a2).toNatClampNeg)
def f_X12_distanceByRounds (σ : gM) (a1 : Int32) (a2 : Int32) : Option ((Int32 × gM) ⊕ (Nat × gM)) :=
  bt (f_X12_requirePlaces σ a1 a2)
    (fun u =>
      bd (f_X9_measureByRounds σ) fun σ4 =>
      bd (f_X9_measuredByRounds σ4 a1 a2) fun r6 =>
      bt (f_X12_present σ4 r6)
        (fun r8 =>
          some (.inl (r8, σ4)))
        (fun n9 => some (.inr (n9, σ4))))
    (fun n2 => some (.inr (n2, σ)))
def f_X9_farthestFrom_L9  (σ : gM) : Nat → Int32 → Int32 → Option (Int32)
  | 0, _, _ => none
  | n + 1, v2, v3 =>
    if 6 ≤ v3 then
      some v2
    else
      gi v3 6 <|
      gi v2 6 <|
      if (σ 4 v3.toNatClampNeg) ≤ (σ 4 v2.toNatClampNeg) then
        nm (v3 + 1) fun x7 =>
        f_X9_farthestFrom_L9 σ n v2 x7
      else
        nm (v3 + 1) fun x8 =>
        f_X9_farthestFrom_L9 σ n v3 x8
def f_X9_farthestFrom (σ : gM) (a1 : Int32) : Option (Int32 × gM) :=
  bd (f_X9_measureFrom σ a1) fun σ2 =>
  bd (f_X9_farthestFrom_L9 σ2 gFU a1 0) fun y10 =>
  some (y10, σ2)
def f_X12_farthestPlace (σ : gM) (a1 : Int32) : Option ((Int32 × gM) ⊕ (Nat × gM)) :=
  bt (f_X12_requireIndex σ a1 6)
    (fun u =>
      bd2 (f_X9_farthestFrom σ a1) fun r4 σ5 =>
      some (.inl (r4, σ5)))
    (fun n2 => some (.inr (n2, σ)))
def f_X12_parcelCount (σ : gM) : Option (Int32) :=
  bd (f_X8_size σ) fun r2 =>
  some r2
def f_X12_requireParcel (σ : gM) (a1 : Int32) : Option ((Unit) ⊕ (Nat)) :=
  bd (f_X8_size σ) fun r2 =>
  bt (f_X12_requireIndex σ a1 r2)
    (fun u =>
      some (.inl ()))
    (fun n4 => some (.inr n4))
def f_X12_weight (σ : gM) (a1 : Int32) : Option ((Int32) ⊕ (Nat)) :=
  bt (f_X12_requireParcel σ a1)
    (fun u =>
      bd (f_X8_weightOf σ a1) fun r4 =>
      some (.inl r4))
    (fun n2 => some (.inr n2))
def f_X12_hazard (σ : gM) (a1 : Int32) : Option ((Int32) ⊕ (Nat)) :=
  bt (f_X12_requireParcel σ a1)
    (fun u =>
      bd (f_X8_hazardOf σ a1) fun r4 =>
      some (.inl r4))
    (fun n2 => some (.inr n2))
def f_X8_destinationOf (σ : gM) (a1 : Int32) : Option (Int32) :=
  gi a1 12 <|
  some (σ 10 a1.toNatClampNeg)
def f_X12_destination (σ : gM) (a1 : Int32) : Option ((Int32) ⊕ (Nat)) :=
  bt (f_X12_requireParcel σ a1)
    (fun u =>
      bd (f_X8_destinationOf σ a1) fun r4 =>
      some (.inl r4))
    (fun n2 => some (.inr n2))
def f_X8_stateOf (σ : gM) (a1 : Int32) : Option (Int32) :=
  gi a1 12 <|
  if (σ 11 a1.toNatClampNeg) = (-1) then
    some 119
  else
    gi a1 12 <|
    if (σ 11 a1.toNatClampNeg) = (-2) then
      some 100
    else
      some 115
def f_X12_state (σ : gM) (a1 : Int32) : Option ((Int32) ⊕ (Nat)) :=
  bt (f_X12_requireParcel σ a1)
    (fun u =>
      bd (f_X8_stateOf σ a1) fun r4 =>
      gn .char r4 <|
      some (.inl r4))
    (fun n2 => some (.inr n2))
def f_X12_sackOf (σ : gM) (a1 : Int32) : Option ((Int32) ⊕ (Nat)) :=
  bt (f_X12_requireParcel σ a1)
    (fun u =>
      bd (f_X8_whereIs σ a1) fun r4 =>
      bd (f_X12_isIndex σ r4 3) fun r6 =>
      if r6 = 0 then
        bt (f_X12_present σ (-1))
          (fun r9 =>
            some (.inl r9))
          (fun n10 => some (.inr n10))
      else
        bt (f_X12_present σ r4)
          (fun r12 =>
            some (.inl r12))
          (fun n13 => some (.inr n13)))
    (fun n2 => some (.inr n2))
def f_X8_returnsOf (σ : gM) (a1 : Int32) : Option (Int32) :=
  gi a1 12 <|
  some (σ 12 a1.toNatClampNeg)
def f_X12_returns (σ : gM) (a1 : Int32) : Option ((Int32) ⊕ (Nat)) :=
  bt (f_X12_requireParcel σ a1)
    (fun u =>
      bd (f_X8_returnsOf σ a1) fun r4 =>
      some (.inl r4))
    (fun n2 => some (.inr n2))
def f_X8_countAt_L4 (p1 : Int32) (σ : gM) : Nat → Int32 → Int32 → Option (Int32)
  | 0, _, _ => none
  | n + 1, v2, v3 =>
    if (σ 7 5) ≤ v3 then
      some v2
    else
      gi v3 12 <|
      if (σ 11 v3.toNatClampNeg) = p1 then
        nm (v2 + 1) fun x5 =>
        nm (v3 + 1) fun x6 =>
        f_X8_countAt_L4 p1 σ n x5 x6
      else
        nm (v3 + 1) fun x4 =>
        f_X8_countAt_L4 p1 σ n v2 x4
def f_X8_countAt (σ : gM) (a1 : Int32) : Option (Int32) :=
  bd (f_X8_countAt_L4 a1 σ gFU 0 0) fun y8 =>
  some y8
def f_X12_waitingCount (σ : gM) : Option (Int32) :=
  bd (f_X8_countAt σ (-1)) fun r2 =>
  some r2
def f_X12_deliveredCount (σ : gM) : Option (Int32) :=
  bd (f_X8_countAt σ (-2)) fun r2 =>
  some r2
def f_X6_size (σ : gM) : Option (Int32) :=
  some (σ 13 2)
def f_X12_gloveCount (σ : gM) : Option (Int32) :=
  bd (f_X6_size σ) fun r2 =>
  some r2
def f_X6_gradeOf (σ : gM) (a1 : Int32) : Option (Int32) :=
  gi a1 8 <|
  some (σ 14 a1.toNatClampNeg)
def f_X12_grade (σ : gM) (a1 : Int32) : Option ((Int32) ⊕ (Nat)) :=
  bd (f_X6_size σ) fun r2 =>
  bt (f_X12_requireIndex σ a1 r2)
    (fun u =>
      bd (f_X6_gradeOf σ a1) fun r6 =>
      some (.inl r6))
    (fun n4 => some (.inr n4))
def f_X6_usesLeftOf (σ : gM) (a1 : Int32) : Option (Int32) :=
  gi a1 8 <|
  some (σ 15 a1.toNatClampNeg)
def f_X12_usesLeft (σ : gM) (a1 : Int32) : Option ((Int32) ⊕ (Nat)) :=
  bd (f_X6_size σ) fun r2 =>
  bt (f_X12_requireIndex σ a1 r2)
    (fun u =>
      bd (f_X6_usesLeftOf σ a1) fun r6 =>
      some (.inl r6))
    (fun n4 => some (.inr n4))
def f_X12_gloveFor (σ : gM) (a1 : Int32) : Option ((Int32) ⊕ (Nat)) :=
  bt (f_X12_requireParcel σ a1)
    (fun u =>
      bd (f_X8_hazardOf σ a1) fun r4 =>
      if r4 = 0 then
        bt (f_X12_accepted σ (-5))
          (fun r12 =>
            some (.inl r12))
          (fun n13 => some (.inr n13))
      else
        bd (f_X6_bestAgainst σ r4) fun r7 =>
        bt (f_X12_present σ r7)
          (fun r9 =>
            some (.inl r9))
          (fun n10 => some (.inr n10)))
    (fun n2 => some (.inr n2))
def f_X12_canHandle (σ : gM) (a1 : Int32) : Option ((Int32) ⊕ (Nat)) :=
  bt (f_X12_requireParcel σ a1)
    (fun u =>
      bd (f_X3_isSafe σ a1) fun r4 =>
      gn .boolean r4 <|
      some (.inl r4))
    (fun n2 => some (.inr n2))
def f_X6_usesOfGrade_L4 (p1 : Int32) (σ : gM) : Nat → Int32 → Int32 → Option (Int32)
  | 0, _, _ => none
  | n + 1, v2, v3 =>
    if (σ 13 2) ≤ v3 then
      some v2
    else
      gi v3 8 <|
      if (σ 14 v3.toNatClampNeg) = p1 then
        gi v3 8 <|
        nm (v2 + (σ 15 v3.toNatClampNeg)) fun x6 =>
        nm (v3 + 1) fun x7 =>
        f_X6_usesOfGrade_L4 p1 σ n x6 x7
      else
        nm (v3 + 1) fun x4 =>
        f_X6_usesOfGrade_L4 p1 σ n v2 x4
def f_X6_usesOfGrade (σ : gM) (a1 : Int32) : Option (Int32) :=
  bd (f_X6_usesOfGrade_L4 a1 σ gFU 0 0) fun y9 =>
  some y9
def f_X8_waitingOfHazard_L4 (p1 : Int32) (σ : gM) : Nat → Int32 → Int32 → Option (Int32)
  | 0, _, _ => none
  | n + 1, v2, v3 =>
    if (σ 7 5) ≤ v3 then
      some v2
    else
      gi v3 12 <|
      if (σ 11 v3.toNatClampNeg) = (-1) then
        gi v3 12 <|
        if (σ 9 v3.toNatClampNeg) = p1 then
          nm (v2 + 1) fun x8 =>
          nm (v3 + 1) fun x9 =>
          f_X8_waitingOfHazard_L4 p1 σ n x8 x9
        else
          nm (v3 + 1) fun x7 =>
          f_X8_waitingOfHazard_L4 p1 σ n v2 x7
      else
        nm (v3 + 1) fun x4 =>
        f_X8_waitingOfHazard_L4 p1 σ n v2 x4
def f_X8_waitingOfHazard (σ : gM) (a1 : Int32) : Option (Int32) :=
  bd (f_X8_waitingOfHazard_L4 a1 σ gFU 0 0) fun y11 =>
  some y11
def f_X4_handledOf_L5 (p2 : Int32) : Nat → Int32 → Int32 → gM → Option (Int32 × gM)
  | 0, _, _, _ => none
  | n + 1, v3, v4, σ =>
    if 3 < v4 then
      some (v3, σ)
    else
      gi v4 4 <|
      nm (if (σ 202 v4.toNatClampNeg) < v3 then (σ 202 v4.toNatClampNeg) else v3) fun x3 =>
      gi v4 4 <|
      gi v4 4 <|
      nm (mset σ 202 v4.toNatClampNeg ((σ 202 v4.toNatClampNeg) - x3)) fun σ6 =>
      nm (v3 - x3) fun x7 =>
      nm (v4 + 1) fun x8 =>
      f_X4_handledOf_L5 p2 n x7 x8 σ6
def f_X4_handledOf (σ : gM) (a1 : Int32) (a2 : Int32) : Option (Int32 × gM) :=
  bd2 (f_X4_handledOf_L5 a2 gFU a2 a1 σ) fun y10 σ11 =>
  some (a2 - y10, σ11)
def f_X4_handledGreedily_L2  : Nat → Int32 → gM → Option (gM)
  | 0, _, _ => none
  | n + 1, v2, σ =>
    if 3 < v2 then
      some σ
    else
      bd (f_X6_usesOfGrade σ v2) fun r3 =>
      gi v2 4 <|
      nm (mset σ 202 v2.toNatClampNeg r3) fun σ5 =>
      nm (v2 + 1) fun x6 =>
      f_X4_handledGreedily_L2 n x6 σ5
def f_X4_handledGreedily_L38  : Nat → Int32 → Int32 → gM → Option (Int32 × gM)
  | 0, _, _, _ => none
  | n + 1, v2, v3, σ =>
    if 3 < v3 then
      some (v2, σ)
    else
      bd (f_X8_waitingOfHazard σ v3) fun r13 =>
      bd2 (f_X4_handledOf σ v3 r13) fun r15 σ16 =>
      nm (v2 + r15) fun x17 =>
      nm (v3 + 1) fun x18 =>
      f_X4_handledGreedily_L38 n x17 x18 σ16
def f_X4_handledGreedily (σ : gM) : Option (Int32 × gM) :=
  bd (f_X4_handledGreedily_L2 gFU 1 σ) fun σ8 =>
  bd (f_X8_waitingOfHazard σ8 0) fun r10 =>
  bd2 (f_X4_handledGreedily_L38 gFU r10 1 σ8) fun y20 σ21 =>
  some (y20, σ21)
def f_X12_handleable (σ : gM) : Option (Int32 × gM) :=
  bd2 (f_X4_handledGreedily σ) fun r2 σ3 =>
  some (r2, σ3)
def f_X4_handledByShortage_L7  (σ : gM) : Nat → Int32 → Int32 → Int32 → Option (Int32)
  | 0, _, _, _ => none
  | n + 1, v2, v3, v4 =>
    if v4 < 1 then
      some v3
    else
      bd (f_X8_waitingOfHazard σ v4) fun r3 =>
      bd (f_X6_usesOfGrade σ v4) fun r5 =>
      nm (v2 + (r3 - r5)) fun x6 =>
      nm (if v3 < x6 then x6 else v3) fun x7 =>
      nm (v4 + (-1)) fun x8 =>
      f_X4_handledByShortage_L7 σ n x6 x7 x8
def f_X4_handledByShortage (σ : gM) : Option (Int32) :=
  bd (f_X4_handledByShortage_L7 σ gFU 0 0 3) fun y10 =>
  bd (f_X8_countAt σ (-1)) fun r12 =>
  some (r12 - y10)
def f_X12_handleableByShortage (σ : gM) : Option (Int32) :=
  bd (f_X4_handledByShortage σ) fun r2 =>
  some r2
def f_X12_place (σ : gM) (a1 : Int32) : Option ((Int32) ⊕ (Nat)) :=
  bt (f_X12_requireIndex σ a1 3)
    (fun u =>
      bd (f_X11_placeOf σ a1) fun r4 =>
      some (.inl r4))
    (fun n2 => some (.inr n2))
def f_X12_capacity (σ : gM) (a1 : Int32) : Option ((Int32) ⊕ (Nat)) :=
  bt (f_X12_requireIndex σ a1 3)
    (fun u =>
      bd (f_X11_capacityOf σ a1) fun r4 =>
      some (.inl r4))
    (fun n2 => some (.inr n2))
def f_X12_load (σ : gM) (a1 : Int32) : Option ((Int32) ⊕ (Nat)) :=
  bt (f_X12_requireIndex σ a1 3)
    (fun u =>
      bd (f_X8_weightAt σ a1) fun r4 =>
      some (.inl r4))
    (fun n2 => some (.inr n2))
def f_X8_waitingOfWeight_L4 (p1 : Int32) (σ : gM) : Nat → Int32 → Int32 → Option (Int32)
  | 0, _, _ => none
  | n + 1, v2, v3 =>
    if (σ 7 5) ≤ v3 then
      some v2
    else
      gi v3 12 <|
      if (σ 11 v3.toNatClampNeg) = (-1) then
        gi v3 12 <|
        if (σ 8 v3.toNatClampNeg) = p1 then
          nm (v2 + 1) fun x8 =>
          nm (v3 + 1) fun x9 =>
          f_X8_waitingOfWeight_L4 p1 σ n x8 x9
        else
          nm (v3 + 1) fun x7 =>
          f_X8_waitingOfWeight_L4 p1 σ n v2 x7
      else
        nm (v3 + 1) fun x4 =>
        f_X8_waitingOfWeight_L4 p1 σ n v2 x4
def f_X8_waitingOfWeight (σ : gM) (a1 : Int32) : Option (Int32) :=
  bd (f_X8_waitingOfWeight_L4 a1 σ gFU 0 0) fun y11 =>
  some y11
def f_X4_fittingGreedily_L12  (σ : gM) : Nat → Int32 → Int32 → Int32 → Option (Int32)
  | 0, _, _, _ => none
  | n + 1, v3, v4, v5 =>
    if 20 < v5 then
      some v4
    else
      bd (f_X8_waitingOfWeight σ v5) fun r5 =>
      gz (v5) <|
      nm (if (v3 / v5) < r5 then (v3 / v5) else r5) fun x7 =>
      nm (v4 + x7) fun x8 =>
      nm (v3 - (x7 * v5)) fun x9 =>
      nm (v5 + 1) fun x10 =>
      f_X4_fittingGreedily_L12 σ n x9 x8 x10
def f_X4_fittingGreedily (σ : gM) (a2 : Int32) : Option (Int32) :=
  bd (f_X3_roomIn σ a2) fun r2 =>
  bd (f_X4_fittingGreedily_L12 σ gFU r2 0 1) fun y12 =>
  some y12
def f_X12_mostFitting (σ : gM) (a1 : Int32) : Option ((Int32) ⊕ (Nat)) :=
  bt (f_X12_requireIndex σ a1 3)
    (fun u =>
      bd (f_X4_fittingGreedily σ a1) fun r4 =>
      some (.inl r4))
    (fun n2 => some (.inr n2))
def f_X4_enter_L2 (p1 : Int32) : Nat → Int32 → gM → Option (gM)
  | 0, _, _ => none
  | n + 1, v3, σ =>
    if v3 < p1 then
      some σ
    else
      gi v3 61 <|
      gi (v3 - p1) 61 <|
      gi v3 61 <|
      nm (mset σ 203 v3.toNatClampNeg (if (σ 203 v3.toNatClampNeg) < ((σ 203 (v3 - p1).toNatClampNeg) + 1) then ((σ 203 (v3 - p1).toNatClampNeg) + 1) else (σ 203 v3.toNatClampNeg))) fun σ5 =>
      nm (v3 + (-1)) fun x6 =>
      f_X4_enter_L2 p1 n x6 σ5
def f_X4_enter (σ : gM) (a1 : Int32) (a2 : Int32) : Option (gM) :=
  bd (f_X4_enter_L2 a1 gFU a2 σ) fun σ8 =>
  some σ8
def f_X4_fittingByTable_L23 (p3 : Int32) : Nat → Int32 → gM → Option (gM)
  | 0, _, _ => none
  | n + 1, v4, σ =>
    if p3 < v4 then
      some σ
    else
      gi v4 61 <|
      nm (mset σ 203 v4.toNatClampNeg 0) fun σ8 =>
      nm (v4 + 1) fun x9 =>
      f_X4_fittingByTable_L23 p3 n x9 σ8
def f_X4_fittingByTable_L46 (p3 : Int32) : Nat → Int32 → gM → Option (gM)
  | 0, _, _ => none
  | n + 1, v4, σ =>
    bd (f_X8_size σ) fun r13 =>
    if r13 ≤ v4 then
      some σ
    else
      bd (f_X8_whereIs σ v4) fun r16 =>
      if r16 = (-1) then
        bd (f_X8_weightOf σ v4) fun r20 =>
        bd (f_X4_enter σ r20 p3) fun σ22 =>
        nm (v4 + 1) fun x23 =>
        f_X4_fittingByTable_L46 p3 n x23 σ22
      else
        nm (v4 + 1) fun x18 =>
        f_X4_fittingByTable_L46 p3 n x18 σ
def f_X4_fittingByTable (σ : gM) (a2 : Int32) : Option (Int32 × gM) :=
  bd (f_X3_roomIn σ a2) fun r2 =>
  bd (f_X12_isIndex σ r2 61) fun r4 =>
  if r4 = 0 then
    some (0, σ)
  else
    bd (f_X4_fittingByTable_L23 r2 gFU 0 σ) fun σ11 =>
    bd (f_X4_fittingByTable_L46 r2 gFU 0 σ11) fun σ25 =>
    gi r2 61 <|
    some (σ25 203 r2.toNatClampNeg, σ25)
def f_X12_mostFittingByTable (σ : gM) (a1 : Int32) : Option ((Int32 × gM) ⊕ (Nat × gM)) :=
  bt (f_X12_requireIndex σ a1 3)
    (fun u =>
      bd2 (f_X4_fittingByTable σ a1) fun r4 σ5 =>
      some (.inl (r4, σ5)))
    (fun n2 => some (.inr (n2, σ)))
def f_X3_effortOf (σ : gM) (a1 : Int32) (a2 : Int32) : Option (Int32 × gM) :=
  bd (f_X11_placeOf σ a1) fun r2 =>
  bd2 (f_X9_shortest σ r2 a2) fun r4 σ5 =>
  if r4 = (-1) then
    some ((-1), σ5)
  else
    bd (f_X8_weightAt σ5 a1) fun r8 =>
    some (r4 * r8, σ5)
def f_X12_effortTo (σ : gM) (a1 : Int32) (a2 : Int32) : Option ((Int32 × gM) ⊕ (Nat × gM)) :=
  bt (f_X12_requireIndex σ a1 3)
    (fun u =>
      bt (f_X12_requireIndex σ a2 6)
        (fun u =>
          bd2 (f_X3_effortOf σ a1 a2) fun r6 σ7 =>
          bt (f_X12_present σ7 r6)
            (fun r9 =>
              some (.inl (r9, σ7)))
            (fun n10 => some (.inr (n10, σ7))))
        (fun n4 => some (.inr (n4, σ))))
    (fun n2 => some (.inr (n2, σ)))
def f_X11_effortOfAll (σ : gM) : Option (Int32) :=
  some (σ 16 2)
def f_X12_effortSoFar (σ : gM) : Option (Int32) :=
  bd (f_X11_effortOfAll σ) fun r2 =>
  some r2
def f_X6_goneCount (σ : gM) : Option (Int32) :=
  some (σ 13 3)
def f_X12_glovesUsedUp (σ : gM) : Option (Int32) :=
  bd (f_X6_goneCount σ) fun r2 =>
  some r2
def f_X8_comesBefore (σ : gM) (a1 : Int32) (a2 : Int32) : Option (Int32) :=
  gi a1 12 <|
  gi a2 12 <|
  if (σ 8 a1.toNatClampNeg) = (σ 8 a2.toNatClampNeg) then
    gi a1 12 <|
    gi a2 12 <|
    if (σ 9 a1.toNatClampNeg) = (σ 9 a2.toNatClampNeg) then
      if a2 ≤ a1 then
        some 0
      else
        some 1
    else
      gi a1 12 <|
      gi a2 12 <|
      if (σ 9 a1.toNatClampNeg) ≤ (σ 9 a2.toNatClampNeg) then
        some 0
      else
        some 1
  else
    gi a1 12 <|
    gi a2 12 <|
    if (σ 8 a1.toNatClampNeg) ≤ (σ 8 a2.toNatClampNeg) then
      some 0
    else
      some 1
def f_X8_rankOf_L4 (p1 : Int32) (σ : gM) : Nat → Int32 → Int32 → Option (Int32)
  | 0, _, _ => none
  | n + 1, v2, v3 =>
    if (σ 7 5) ≤ v3 then
      some v2
    else
      gi v3 12 <|
      if (σ 11 v3.toNatClampNeg) = (-2) then
        nm (v3 + 1) fun x4 =>
        f_X8_rankOf_L4 p1 σ n v2 x4
      else
        bd (f_X8_comesBefore σ v3 p1) fun r6 =>
        if r6 = 0 then
          nm (v3 + 1) fun x8 =>
          f_X8_rankOf_L4 p1 σ n v2 x8
        else
          nm (v2 + 1) fun x9 =>
          nm (v3 + 1) fun x10 =>
          f_X8_rankOf_L4 p1 σ n x9 x10
def f_X8_rankOf (σ : gM) (a1 : Int32) : Option (Int32) :=
  bd (f_X8_rankOf_L4 a1 σ gFU 0 0) fun y12 =>
  some y12
def f_X8_atRank_L2 (p1 : Int32) (σ : gM) : Nat → Int32 → Option ((Int32) ⊕ (Unit))
  | 0, _ => none
  | n + 1, v2 =>
    if (σ 7 5) ≤ v2 then
      some (.inr ())
    else
      gi v2 12 <|
      if (σ 11 v2.toNatClampNeg) = (-2) then
        nm (v2 + 1) fun x4 =>
        f_X8_atRank_L2 p1 σ n x4
      else
        bd (f_X8_rankOf σ v2) fun r6 =>
        if r6 = p1 then
          some (.inl v2)
        else
          nm (v2 + 1) fun x8 =>
          f_X8_atRank_L2 p1 σ n x8
def f_X8_atRank (σ : gM) (a1 : Int32) : Option (Int32) :=
  gs2 (f_X8_atRank_L2 a1 σ gFU 0)
    (fun y10 =>
      some y10)
    (fun _ =>
      some (-1))
def f_X12_heaviest (σ : gM) (a1 : Int32) : Option ((Int32) ⊕ (Nat)) :=
  bd (f_X8_atRank σ a1) fun r2 =>
  bt (f_X12_present σ r2)
    (fun r4 =>
      some (.inl r4))
    (fun n5 => some (.inr n5))
def f_X8_sumOfHazards_L4  (σ : gM) : Nat → Int32 → Int32 → Option (Int32)
  | 0, _, _ => none
  | n + 1, v1, v2 =>
    if (σ 7 5) ≤ v2 then
      some v1
    else
      gi v2 12 <|
      nm (v1 + (σ 9 v2.toNatClampNeg)) fun x3 =>
      nm (v2 + 1) fun x4 =>
      f_X8_sumOfHazards_L4 σ n x3 x4
def f_X8_sumOfHazards (σ : gM) : Option (Int32) :=
  bd (f_X8_sumOfHazards_L4 σ gFU 0 0) fun y6 =>
  some y6
def f_X12_meanHazard (σ : gM) : Option ((UInt64) ⊕ (Nat)) :=
  bd (f_X8_size σ) fun r2 =>
  if r2 = 0 then
    some (.inr 5)
  else
    bd (f_X8_sumOfHazards σ) fun r5 =>
    gnd (FP.ddiv (FP.i2d r5) (FP.i2d r2)) <|
    some (.inl (FP.ddiv (FP.i2d r5) (FP.i2d r2)))
def f_X12_deliveredShare (σ : gM) : Option ((UInt32) ⊕ (Nat)) :=
  bd (f_X8_size σ) fun r2 =>
  if r2 = 0 then
    some (.inr 5)
  else
    bd (f_X8_countAt σ (-2)) fun r5 =>
    gnf (FP.fdiv (FP.i2f r5) (FP.i2f r2)) <|
    some (.inl (FP.fdiv (FP.i2f r5) (FP.i2f r2)))
def f_X9_bothDistancesAgree_L19 (p1 : Int32) (σ : gM) : Nat → Int32 → Option ((Unit) ⊕ (Unit))
  | 0, _ => none
  | n + 1, v2 =>
    if 6 ≤ v2 then
      some (.inr ())
    else
      gi v2 6 <|
      bd (f_X9_measuredByRounds σ p1 v2) fun r9 =>
      if (σ 4 v2.toNatClampNeg) = r9 then
        nm (v2 + 1) fun x11 =>
        f_X9_bothDistancesAgree_L19 p1 σ n x11
      else
        some (.inl ())
def f_X9_bothDistancesAgree_L6  : Nat → Int32 → gM → Option ((gM) ⊕ (gM))
  | 0, _, _ => none
  | n + 1, v1, σ =>
    if 6 ≤ v1 then
      some (.inr σ)
    else
      bd (f_X9_measureFrom σ v1) fun σ5 =>
      gs2 (f_X9_bothDistancesAgree_L19 v1 σ5 gFU 0)
        (fun _ =>
          some (.inl σ5))
        (fun _ =>
          nm (v1 + 1) fun x13 =>
          f_X9_bothDistancesAgree_L6 n x13 σ5)
def f_X9_bothDistancesAgree (σ : gM) : Option (Int32 × gM) :=
  bd (f_X9_measureByRounds σ) fun σ2 =>
  gs2 (f_X9_bothDistancesAgree_L6 gFU 0 σ2)
    (fun σ15 =>
      some (0, σ15))
    (fun σ16 =>
      some (1, σ16))
def f_X12_handlingAgrees (σ : gM) : Option (Int32 × gM) :=
  bd2 (f_X4_handledGreedily σ) fun r2 σ3 =>
  bd (f_X4_handledByShortage σ3) fun r5 =>
  if r2 = r5 then
    some (1, σ3)
  else
    some (0, σ3)
def f_X12_sacksAgree_L2  : Nat → Int32 → gM → Option ((gM) ⊕ ((gM) ⊕ (gM)))
  | 0, _, _ => none
  | n + 1, v1, σ =>
    if 3 ≤ v1 then
      some (.inr (.inr σ))
    else
      bd (f_X4_fittingGreedily σ v1) fun r3 =>
      bd2 (f_X4_fittingByTable σ v1) fun r5 σ6 =>
      if r3 = r5 then
        bd (f_X3_roomIn σ6 v1) fun r9 =>
        if 0 ≤ r9 then
          nm (v1 + 1) fun x11 =>
          f_X12_sacksAgree_L2 n x11 σ6
        else
          some (.inr (.inl σ6))
      else
        some (.inl σ6)
def f_X12_sacksAgree (σ : gM) : Option (Int32 × gM) :=
  gs3 (f_X12_sacksAgree_L2 gFU 0 σ)
    (fun σ13 =>
      some (0, σ13))
    (fun σ14 =>
      some (0, σ14))
    (fun σ15 =>
      some (1, σ15))
def f_X12_isConsistent (σ : gM) : Option (Int32 × gM) :=
  bd2 (f_X9_bothDistancesAgree σ) fun r2 σ3 =>
  if r2 = 0 then
    some (0, σ3)
  else
    bd2 (f_X12_handlingAgrees σ3) fun r6 σ7 =>
    if r6 = 0 then
      some (0, σ7)
    else
      bd2 (f_X12_sacksAgree σ7) fun r10 σ11 =>
      if r10 = 0 then
        some (0, σ11)
      else
        some (1, σ11)
def f_X2_isFull (σ : gM) : Option (Int32) :=
  if (σ 204 2) < 60 then
    some 0
  else
    some 1
def f_X2_add (σ : gM) (a1 : Int32) : Option (Int32 × gM) :=
  gi (σ 204 2) 60 <|
  nm (mset σ 205 ((σ 204 2).toNatClampNeg) (vp_nar .char a1)) fun σ2 =>
  nm (mset σ2 204 2 ((σ2 204 2) + 1)) fun σ3 =>
  some (σ3 204 2, σ3)
def f_X12_feed (σ : gM) (a1 : Int32) : Option ((Int32 × gM) ⊕ (Nat × gM)) :=
  bd (f_X2_isFull σ) fun r2 =>
  if r2 = 0 then
    bd2 (f_X2_add σ a1) fun r5 σ6 =>
    bt (f_X12_accepted σ6 r5)
      (fun r8 =>
        some (.inl (r8, σ6)))
      (fun n9 => some (.inr (n9, σ6)))
  else
    bt (f_X12_accepted σ (-4))
      (fun r11 =>
        some (.inl (r11, σ)))
      (fun n12 => some (.inr (n12, σ)))
def f_X2_isDigit (σ : gM) (a1 : Int32) : Option (Int32) :=
  if (σ 204 2) ≤ a1 then
    some 0
  else
    gi a1 60 <|
    if (σ 205 a1.toNatClampNeg) < 48 then
      some 0
    else
      gi a1 60 <|
      if 57 < (σ 205 a1.toNatClampNeg) then
        some 0
      else
        some 1
def f_X2_readNumber (σ : gM) (a1 : Int32) : Option (Int32 × gM) :=
  gi (σ 204 4) 60 <|
  nm ((σ 205 (σ 204 4).toNatClampNeg) - 48) fun x2 =>
  nm (mset σ 204 4 ((σ 204 4) + 1)) fun σ3 =>
  if a1 = 0 then
    some (x2, σ3)
  else
    bd (f_X2_isDigit σ3 (σ3 204 4)) fun r6 =>
    if r6 = 0 then
      some (x2, σ3)
    else
      gi (σ3 204 4) 60 <|
      nm (((x2 * 10) + (σ3 205 (σ3 204 4).toNatClampNeg)) - 48) fun x9 =>
      nm (mset σ3 204 4 ((σ3 204 4) + 1)) fun σ10 =>
      some (x9, σ10)
def f_X1_setNumber (σ : gM) (kc : Nat) (a1 : Int32) (a2 : Int32) : Option (gM) :=
  if a1 = 0 then
    nm (mset σ (207 + kc) 1 a2) fun σ5 =>
    some σ5
  else
    if a1 = 1 then
      nm (mset σ (207 + kc) 2 a2) fun σ4 =>
      some σ4
    else
      nm (mset σ (207 + kc) 3 a2) fun σ3 =>
      some σ3
def f_X2_fits_L26 (kf : Nat) (kc : Nat) : Nat → Int32 → Int32 → gM → Option ((gM) ⊕ ((gM) ⊕ (gM)))
  | 0, _, _, _ => none
  | n + 1, v4, v5, σ =>
    if (nI (gLen.getD kf 0)) ≤ v5 then
      some (.inr (.inr σ))
    else
      gi v5 (gLen.getD kf 0) <|
      nm ((gByt.getD kf []).getD v5.toNatClampNeg 0) fun x5 =>
      if x5 = 35 then
        bd (f_X2_isDigit σ (σ 204 4)) fun r8 =>
        if r8 = 0 then
          some (.inl σ)
        else
          if x5 = 37 then
            bd2 (f_X2_readNumber σ 1) fun r19 σ20 =>
            bd (f_X1_setNumber σ20 kc v4 r19) fun σ22 =>
            nm (v4 + 1) fun x23 =>
            nm (v5 + 1) fun x24 =>
            f_X2_fits_L26 kf kc n x23 x24 σ22
          else
            bd2 (f_X2_readNumber σ 0) fun r12 σ13 =>
            bd (f_X1_setNumber σ13 kc v4 r12) fun σ15 =>
            nm (v4 + 1) fun x16 =>
            nm (v5 + 1) fun x17 =>
            f_X2_fits_L26 kf kc n x16 x17 σ15
      else
        if x5 = 37 then
          bd (f_X2_isDigit σ (σ 204 4)) fun r32 =>
          if r32 = 0 then
            some (.inl σ)
          else
            if x5 = 37 then
              bd2 (f_X2_readNumber σ 1) fun r43 σ44 =>
              bd (f_X1_setNumber σ44 kc v4 r43) fun σ46 =>
              nm (v4 + 1) fun x47 =>
              nm (v5 + 1) fun x48 =>
              f_X2_fits_L26 kf kc n x47 x48 σ46
            else
              bd2 (f_X2_readNumber σ 0) fun r36 σ37 =>
              bd (f_X1_setNumber σ37 kc v4 r36) fun σ39 =>
              nm (v4 + 1) fun x40 =>
              nm (v5 + 1) fun x41 =>
              f_X2_fits_L26 kf kc n x40 x41 σ39
        else
          if (σ 204 2) ≤ (σ 204 4) then
            some (.inr (.inl σ))
          else
            gi (σ 204 4) 60 <|
            if (σ 205 (σ 204 4).toNatClampNeg) = x5 then
              nm (mset σ 204 4 ((σ 204 4) + 1)) fun σ29 =>
              nm (v5 + 1) fun x30 =>
              f_X2_fits_L26 kf kc n v4 x30 σ29
            else
              some (.inr (.inl σ))
def f_X2_fits (σ : gM) (kf : Nat) (kc : Nat) (a3 : Int32) : Option (Int32 × gM) :=
  nm (mset σ 204 4 a3) fun σ1 =>
  nm (mset σ1 (207 + kc) 0 (nI (kf + 1))) fun σ2 =>
  gs3 (f_X2_fits_L26 kf kc gFU 0 0 σ2)
    (fun σ50 =>
      some (0, σ50))
    (fun σ51 =>
      some (0, σ51))
    (fun σ52 =>
      some (1, σ52))
def f_X2_readCommand_L5 (kc : Nat) (p2 : Int32) : Nat → Int32 → Int32 → gM → Option ((gM) ⊕ (Int32 × gM))
  | 0, _, _, _ => none
  | n + 1, v3, v4, σ =>
    if 7 ≤ v4 then
      some (.inr (v3, σ))
    else
      gi v4 7 <|
      bd2 (f_X2_fits σ v4.toNatClampNeg kc p2) fun r4 σ5 =>
      if r4 = 0 then
        nm (if v3 < (σ5 204 4) then (σ5 204 4) else v3) fun x7 =>
        nm (v4 + 1) fun x8 =>
        f_X2_readCommand_L5 kc p2 n x7 x8 σ5
      else
        some (.inl σ5)
def f_X2_readCommand (σ : gM) (kc : Nat) (a2 : Int32) : Option (Int32 × gM) :=
  gs2 (f_X2_readCommand_L5 kc a2 gFU a2 0 σ)
    (fun σ10 =>
      some (1, σ10))
    (un2 fun y11 σ12 =>
      nm (mset σ12 204 4 y11) fun σ13 =>
      some (0, σ13))
def f_X2_read_L9  : Nat → Int32 → Int32 → gM → Option ((gM) ⊕ ((gM) ⊕ ((gM) ⊕ (Int32 × gM))))
  | 0, _, _, _ => none
  | n + 1, v1, v2, σ =>
    if 10 ≤ v2 then
      some (.inr (.inr (.inr (v1, σ))))
    else
      gi v2 10 <|
      bd2 (f_X2_readCommand σ v2.toNatClampNeg v1) fun r5 σ6 =>
      if r5 = 0 then
        some (.inl σ6)
      else
        nm (mset σ6 204 3 ((σ6 204 3) + 1)) fun σ8 =>
        if (σ8 204 4) < (σ8 204 2) then
          gi (σ8 204 4) 60 <|
          if (σ8 205 (σ8 204 4).toNatClampNeg) = 59 then
            nm ((σ8 204 4) + 1) fun x12 =>
            nm (v2 + 1) fun x13 =>
            f_X2_read_L9 n x12 x13 σ8
          else
            some (.inr (.inr (.inl σ8)))
        else
          some (.inr (.inl σ8))
def f_X2_read (σ : gM) : Option (Int32 × gM) :=
  nm (mset σ 204 3 0) fun σ1 =>
  gs4 (f_X2_read_L9 gFU 0 0 σ1)
    (fun σ15 =>
      some (σ15 204 4, σ15))
    (fun σ16 =>
      some ((-1), σ16))
    (fun σ17 =>
      some (σ17 204 4, σ17))
    (un2 fun y18 σ19 =>
      some (y18, σ19))
def f_X2_clear (σ : gM) : Option (gM) :=
  nm (mset σ 204 2 0) fun σ1 =>
  some σ1
def f_X2_commandCount (σ : gM) : Option (Int32) :=
  some (σ 204 3)
def f_X2_command (σ : gM) (a1 : Int32) : Option (Option Nat) :=
  bd (f_X12_isIndex σ a1 10) fun r2 =>
  if r2 = 0 then
    some none
  else
    gi a1 10 <|
    some (some a1.toNatClampNeg)
def f_X12_carryOut (σ : gM) (kc : Nat) : Option (Int32 × gM) :=
  if σ (207 + kc) 0 = 0 then
    some ((-5), σ)
  else
    gi ((σ (207 + kc) 0) - 1) 7 <|
    if (σ (207 + kc) 0) = 1 then
      bd2 (f_X3_joinPlaces σ (σ (207 + kc) 1) (σ (207 + kc) 2) (σ (207 + kc) 3)) fun r5 σ6 =>
      some (r5, σ6)
    else
      if (σ (207 + kc) 0) = 2 then
        bd2 (f_X3_addParcel σ (σ (207 + kc) 1) (σ (207 + kc) 2) (σ (207 + kc) 3)) fun r9 σ10 =>
        some (r9, σ10)
      else
        if (σ (207 + kc) 0) = 3 then
          bd2 (f_X3_addGlove σ (σ (207 + kc) 1)) fun r13 σ14 =>
          some (r13, σ14)
        else
          if (σ (207 + kc) 0) = 4 then
            bd2 (f_X3_putIn σ (σ (207 + kc) 1) (σ (207 + kc) 2)) fun r17 σ18 =>
            some (r17, σ18)
          else
            if (σ (207 + kc) 0) = 5 then
              bd2 (f_X3_pullOut σ (σ (207 + kc) 1)) fun r21 σ22 =>
              some (r21, σ22)
            else
              if (σ (207 + kc) 0) = 6 then
                bd2 (f_X3_bring σ (σ (207 + kc) 1) (σ (207 + kc) 2)) fun r25 σ26 =>
                some (r25, σ26)
              else
                if (σ (207 + kc) 0) = 7 then
                  bd2 (f_X3_takeBack σ (σ (207 + kc) 1)) fun r29 σ30 =>
                  some (r29, σ30)
                else
                  some ((-5), σ)
def f_X12_carryOutCommands_L2  : Nat → Int32 → gM → Option ((Int32 × gM) ⊕ (gM))
  | 0, _, _ => none
  | n + 1, v1, σ =>
    bd (f_X2_commandCount σ) fun r2 =>
    if r2 ≤ v1 then
      some (.inr σ)
    else
      bd (f_X2_command σ v1) fun r5 =>
      gk r5 fun kc6 =>
      bd2 (f_X12_carryOut σ kc6) fun r8 σ9 =>
      if 0 ≤ r8 then
        nm (v1 + 1) fun x11 =>
        f_X12_carryOutCommands_L2 n x11 σ9
      else
        some (.inl (v1, σ9))
def f_X12_carryOutCommands (σ : gM) : Option (Int32 × gM) :=
  gs2 (f_X12_carryOutCommands_L2 gFU 0 σ)
    (un2 fun y13 σ14 =>
      some (y13, σ14))
    (fun σ15 =>
      some ((-1), σ15))
def f_X7_putBack (σ : gM) : Option (gM) :=
  gi (σ 199 1) 9 <|
  bd (f_X3_copyFrom σ 0 ((σ 199 1).toNatClampNeg + 2)) fun σ3 =>
  some σ3
def f_X12_runCommands (σ : gM) : Option ((Int32 × gM) ⊕ (Nat × gM)) :=
  bd2 (f_X2_read σ) fun r2 σ3 =>
  bd (f_X2_clear σ3) fun σ5 =>
  if r2 = (-1) then
    bd (f_X7_prepare σ5) fun σ8 =>
    bd2 (f_X12_carryOutCommands σ8) fun r10 σ11 =>
    if r10 = (-1) then
      bd (f_X2_commandCount σ11) fun r14 =>
      bt2 (f_X12_recorded σ11 r14)
        (fun r16 σ17 =>
          some (.inl (r16, σ17)))
        (fun n18 σ17 => some (.inr (n18, σ17)))
    else
      bd (f_X7_putBack σ11) fun σ20 =>
      nm (mset σ20 0 8 r10) fun σ21 =>
      some (.inr (3, σ21))
  else
    nm (mset σ5 0 7 r2) fun σ22 =>
    some (.inr (1, σ22))
def f_X12_errorPosition (σ : gM) : Option ((Int32) ⊕ (Nat)) :=
  bt (f_X12_present σ (σ 0 7))
    (fun r2 =>
      some (.inl r2))
    (fun n3 => some (.inr n3))
def f_X12_failedCommand (σ : gM) : Option ((Int32) ⊕ (Nat)) :=
  bt (f_X12_present σ (σ 0 8))
    (fun r2 =>
      some (.inl r2))
    (fun n3 => some (.inr n3))
def f_X10_add (σ : gM) (a1 : Int32) : Option (gM) :=
  if 100 ≤ (σ 217 1) then
    some σ
  else
    gi (σ 217 1) 100 <|
    nm (mset σ 218 ((σ 217 1).toNatClampNeg) (vp_nar .char a1)) fun σ3 =>
    nm (mset σ3 217 1 ((σ3 217 1) + 1)) fun σ4 =>
    some σ4
def f_X10_addNumber (σ : gM) (a1 : Int32) : Option (gM) :=
  if a1 < 10 then
    bd (f_X10_add σ (((48 + (a1 - a1 / 10 * 10)).toUInt32 % 65536).toInt32)) fun σ3 =>
    some σ3
  else
    bd (f_X10_add σ (((48 + (a1 / 10)).toUInt32 % 65536).toInt32)) fun σ5 =>
    bd (f_X10_add σ5 (((48 + (a1 - a1 / 10 * 10)).toUInt32 % 65536).toInt32)) fun σ7 =>
    some σ7
def f_X10_addParcel_L17 (p2 : Int32) : Nat → Int32 → gM → Option (gM)
  | 0, _, _ => none
  | n + 1, v3, σ =>
    bd (f_X8_hazardOf σ p2) fun r8 =>
    if r8 ≤ v3 then
      some σ
    else
      bd (f_X10_add σ 104) fun σ11 =>
      nm (v3 + 1) fun x12 =>
      f_X10_addParcel_L17 p2 n x12 σ11
def f_X10_addParcel (σ : gM) (a2 : Int32) : Option (gM) :=
  bd (f_X10_add σ 32) fun σ2 =>
  bd (f_X8_weightOf σ2 a2) fun r4 =>
  bd (f_X10_addNumber σ2 r4) fun σ6 =>
  bd (f_X10_addParcel_L17 a2 gFU 0 σ6) fun σ14 =>
  bd (f_X10_add σ14 62) fun σ16 =>
  bd (f_X8_destinationOf σ16 a2) fun r18 =>
  bd (f_X10_addNumber σ16 r18) fun σ20 =>
  some σ20
def f_X10_describe_L36 (p2 : Int32) : Nat → Int32 → gM → Option (gM)
  | 0, _, _ => none
  | n + 1, v3, σ =>
    bd (f_X8_size σ) fun r13 =>
    if r13 ≤ v3 then
      some σ
    else
      bd (f_X8_whereIs σ v3) fun r16 =>
      if r16 = p2 then
        bd (f_X10_addParcel σ v3) fun σ20 =>
        nm (v3 + 1) fun x21 =>
        f_X10_describe_L36 p2 n x21 σ20
      else
        nm (v3 + 1) fun x18 =>
        f_X10_describe_L36 p2 n x18 σ
def f_X10_describe (σ : gM) (a2 : Int32) : Option (Int32 × gM) :=
  nm (mset σ 217 1 0) fun σ1 =>
  bd (f_X10_add σ1 115) fun σ3 =>
  bd (f_X10_addNumber σ3 a2) fun σ5 =>
  bd (f_X10_add σ5 64) fun σ7 =>
  bd (f_X11_placeOf σ7 a2) fun r9 =>
  bd (f_X10_addNumber σ7 r9) fun σ11 =>
  bd (f_X10_describe_L36 a2 gFU 0 σ11) fun σ23 =>
  some (σ23 217 1, σ23)
def f_X12_writeSack (σ : gM) (a1 : Int32) : Option ((Int32 × gM) ⊕ (Nat × gM)) :=
  bt (f_X12_requireIndex σ a1 3)
    (fun u =>
      bd2 (f_X10_describe σ a1) fun r4 σ5 =>
      some (.inl (r4, σ5)))
    (fun n2 => some (.inr (n2, σ)))
def f_X10_size (σ : gM) : Option (Int32) :=
  some (σ 217 1)
def f_X10_at (σ : gM) (a1 : Int32) : Option (Int32) :=
  gi a1 100 <|
  gn .char (σ 218 a1.toNatClampNeg) <|
  some (σ 218 a1.toNatClampNeg)
def f_X12_outputChar (σ : gM) (a1 : Int32) : Option ((Int32) ⊕ (Nat)) :=
  bd (f_X10_size σ) fun r2 =>
  bt (f_X12_requireIndex σ a1 r2)
    (fun u =>
      bd (f_X10_at σ a1) fun r6 =>
      gn .char r6 <|
      some (.inl r6))
    (fun n4 => some (.inr n4))
def f_X7_size (σ : gM) : Option (Int32) :=
  some (σ 199 2)
def f_X7_goBack (σ : gM) : Option (Int32 × gM) :=
  nm (mset σ 199 1 ((((σ 199 1) + 9) - 1) - (((σ 199 1) + 9) - 1) / 9 * 9)) fun σ1 =>
  nm (mset σ1 199 2 ((σ1 199 2) - 1)) fun σ2 =>
  bd (f_X7_putBack σ2) fun σ4 =>
  some (σ4 199 2, σ4)
def f_X12_undo (σ : gM) : Option ((Int32 × gM) ⊕ (Nat × gM)) :=
  bd (f_X7_size σ) fun r2 =>
  if r2 = 0 then
    bt (f_X12_accepted σ (-4))
      (fun r11 =>
        some (.inl (r11, σ)))
      (fun n12 => some (.inr (n12, σ)))
  else
    bd2 (f_X7_goBack σ) fun r5 σ6 =>
    bt (f_X12_accepted σ6 r5)
      (fun r8 =>
        some (.inl (r8, σ6)))
      (fun n9 => some (.inr (n9, σ6)))
def f_X12_save (σ : gM) : Option (Int32 × gM) :=
  bd (f_X3_copyFrom σ 1 0) fun σ2 =>
  nm (mset σ2 0 6 1) fun σ3 =>
  bd (f_X8_size σ3) fun r5 =>
  some (r5, σ3)
def f_X7_forget (σ : gM) : Option (gM) :=
  nm (mset σ 199 2 0) fun σ1 =>
  some σ1
def f_X12_restore (σ : gM) : Option ((Int32 × gM) ⊕ (Nat × gM)) :=
  if (σ 0 6) = 0 then
    some (.inr (2, σ))
  else
    bd (f_X3_copyFrom σ 0 1) fun σ3 =>
    bd (f_X7_forget σ3) fun σ5 =>
    bd (f_X8_size σ5) fun r7 =>
    some (.inl (r7, σ5))
