def f_X9_copyFrom (σ : gM) (kt : Nat) (ko : Nat) : Option (gM) :=
  nm (rset σ (1 + 18 * kt + 2) (va_cpy (σ (1 + 18 * ko + 2)) (σ (1 + 18 * kt + 2)) 0 0 36)) fun σ1 =>
  nm (mset σ1 (1 + 18 * kt + 1) 4 (σ1 (1 + 18 * ko + 1) 4)) fun σ2 =>
  some σ2
def f_X8_copyFrom (σ : gM) (kt : Nat) (ko : Nat) : Option (gM) :=
  nm (rset σ (1 + 18 * kt + 7) (va_cpy (σ (1 + 18 * ko + 7)) (σ (1 + 18 * kt + 7)) 0 0 12)) fun σ1 =>
  nm (rset σ1 (1 + 18 * kt + 8) (va_cpy (σ1 (1 + 18 * ko + 8)) (σ1 (1 + 18 * kt + 8)) 0 0 12)) fun σ2 =>
  nm (rset σ2 (1 + 18 * kt + 9) (va_cpy (σ2 (1 + 18 * ko + 9)) (σ2 (1 + 18 * kt + 9)) 0 0 12)) fun σ3 =>
  nm (rset σ3 (1 + 18 * kt + 10) (va_cpy (σ3 (1 + 18 * ko + 10)) (σ3 (1 + 18 * kt + 10)) 0 0 12)) fun σ4 =>
  nm (rset σ4 (1 + 18 * kt + 11) (va_cpy (σ4 (1 + 18 * ko + 11)) (σ4 (1 + 18 * kt + 11)) 0 0 12)) fun σ5 =>
  nm (mset σ5 (1 + 18 * kt + 6) 5 (σ5 (1 + 18 * ko + 6) 5)) fun σ6 =>
  some σ6
def f_X6_copyFrom (σ : gM) (kt : Nat) (ko : Nat) : Option (gM) :=
  nm (rset σ (1 + 18 * kt + 13) (va_cpy (σ (1 + 18 * ko + 13)) (σ (1 + 18 * kt + 13)) 0 0 8)) fun σ1 =>
  nm (rset σ1 (1 + 18 * kt + 14) (va_cpy (σ1 (1 + 18 * ko + 14)) (σ1 (1 + 18 * kt + 14)) 0 0 8)) fun σ2 =>
  nm (mset σ2 (1 + 18 * kt + 12) 2 (σ2 (1 + 18 * ko + 12) 2)) fun σ3 =>
  nm (mset σ3 (1 + 18 * kt + 12) 3 (σ3 (1 + 18 * ko + 12) 3)) fun σ4 =>
  some σ4
def f_X11_copyFrom (σ : gM) (kt : Nat) (ko : Nat) : Option (gM) :=
  nm (rset σ (1 + 18 * kt + 16) (va_cpy (σ (1 + 18 * ko + 16)) (σ (1 + 18 * kt + 16)) 0 0 3)) fun σ1 =>
  nm (rset σ1 (1 + 18 * kt + 17) (va_cpy (σ1 (1 + 18 * ko + 17)) (σ1 (1 + 18 * kt + 17)) 0 0 3)) fun σ2 =>
  nm (mset σ2 (1 + 18 * kt + 15) 2 (σ2 (1 + 18 * ko + 15) 2)) fun σ3 =>
  some σ3
def f_X3_copyFrom (σ : gM) (kt : Nat) (ko : Nat) : Option (gM) :=
  bd (f_X9_copyFrom σ kt ko) fun σ2 =>
  bd (f_X8_copyFrom σ2 kt ko) fun σ4 =>
  bd (f_X6_copyFrom σ4 kt ko) fun σ6 =>
  bd (f_X11_copyFrom σ6 kt ko) fun σ8 =>
  some σ8
def f_X7_prepare (σ : gM) : Option (gM) :=
  gi (σ 199 1) 9 <|
  bd (f_X3_copyFrom σ ((σ 199 1).toNatClampNeg + 2) 0) fun σ3 =>
  some σ3
def f_X12_isIndex (σ : gM) (a1 : Int32) (a2 : Int32) : Option (Int32) :=
  if a1 < 0 then
    some 0
  else
    if a2 ≤ a1 then
      some 0
    else
      some 1
def f_X12_isWithin (σ : gM) (a1 : Int32) (a2 : Int32) (a3 : Int32) : Option (Int32) :=
  if a1 < a2 then
    some 0
  else
    if a3 < a1 then
      some 0
    else
      some 1
def f_X9_joins (σ : gM) (a1 : Int32) (a2 : Int32) : Option (Int32) :=
  gi ((a1 * 6) + a2) 36 <|
  if (σ 3 ((a1 * 6) + a2).toNatClampNeg) ≤ 0 then
    some 0
  else
    some 1
def f_X9_join (σ : gM) (a1 : Int32) (a2 : Int32) (a3 : Int32) : Option (Int32 × gM) :=
  gi ((a1 * 6) + a2) 36 <|
  nm (mset σ 3 (((a1 * 6) + a2).toNatClampNeg) a3) fun σ2 =>
  gi ((a2 * 6) + a1) 36 <|
  nm (mset σ2 3 (((a2 * 6) + a1).toNatClampNeg) a3) fun σ4 =>
  nm (mset σ4 2 4 ((σ4 2 4) + 1)) fun σ5 =>
  some (σ5 2 4, σ5)
def f_X3_joinPlaces (σ : gM) (a1 : Int32) (a2 : Int32) (a3 : Int32) : Option (Int32 × gM) :=
  bd (f_X12_isIndex σ a1 6) fun r2 =>
  if r2 = 0 then
    some ((-2), σ)
  else
    bd (f_X12_isIndex σ a2 6) fun r5 =>
    if r5 = 0 then
      some ((-2), σ)
    else
      if a1 = a2 then
        some ((-3), σ)
      else
        bd (f_X12_isWithin σ a3 1 20) fun r9 =>
        if r9 = 0 then
          some ((-3), σ)
        else
          bd (f_X9_joins σ a1 a2) fun r12 =>
          if r12 = 0 then
            bd2 (f_X9_join σ a1 a2 a3) fun r15 σ16 =>
            some (r15, σ16)
          else
            some ((-4), σ)
def f_X12_accepted (σ : gM) (a1 : Int32) : Option ((Int32) ⊕ (Nat)) :=
  if a1 = (-6) then
    some (.inr 4)
  else
    if a1 = (-5) then
      some (.inr 3)
    else
      if a1 = (-4) then
        some (.inr 2)
      else
        if a1 = (-3) then
          some (.inr 1)
        else
          if a1 = (-2) then
            some (.inr 0)
          else
            some (.inl a1)
def f_X7_keep (σ : gM) : Option (gM) :=
  nm (mset σ 199 1 (((σ 199 1) + 1) - ((σ 199 1) + 1) / 9 * 9)) fun σ1 =>
  nm (mset σ1 199 2 (if 8 < ((σ1 199 2) + 1) then 8 else ((σ1 199 2) + 1))) fun σ2 =>
  some σ2
def f_X12_recorded (σ : gM) (a1 : Int32) : Option ((Int32 × gM) ⊕ (Nat × gM)) :=
  bt (f_X12_accepted σ a1)
    (fun r2 =>
      bd (f_X7_keep σ) fun σ5 =>
      some (.inl (r2, σ5)))
    (fun n3 => some (.inr (n3, σ)))
def f_X12_buildRoad (σ : gM) (a1 : Int32) (a2 : Int32) (a3 : Int32) : Option ((Int32 × gM) ⊕ (Nat × gM)) :=
  bd (f_X7_prepare σ) fun σ2 =>
  bd2 (f_X3_joinPlaces σ2 a1 a2 a3) fun r4 σ5 =>
  bt2 (f_X12_recorded σ5 r4)
    (fun r7 σ8 =>
      some (.inl (r7, σ8)))
    (fun n9 σ8 => some (.inr (n9, σ8)))
def f_X8_isFull (σ : gM) : Option (Int32) :=
  if (σ 7 5) < 12 then
    some 0
  else
    some 1
def f_X8_add (σ : gM) (a1 : Int32) (a2 : Int32) (a3 : Int32) : Option (Int32 × gM) :=
  nm (σ 7 5) fun x1 =>
  gi x1 12 <|
  nm (mset σ 8 x1.toNatClampNeg a1) fun σ3 =>
  gi x1 12 <|
  nm (mset σ3 9 x1.toNatClampNeg a2) fun σ5 =>
  gi x1 12 <|
  nm (mset σ5 10 x1.toNatClampNeg a3) fun σ7 =>
  gi x1 12 <|
  nm (mset σ7 11 x1.toNatClampNeg (-1)) fun σ9 =>
  gi x1 12 <|
  nm (mset σ9 12 x1.toNatClampNeg 0) fun σ11 =>
  nm (mset σ11 7 5 ((σ11 7 5) + 1)) fun σ12 =>
  some (x1, σ12)
def f_X3_addParcel (σ : gM) (a1 : Int32) (a2 : Int32) (a3 : Int32) : Option (Int32 × gM) :=
  bd (f_X12_isIndex σ a3 6) fun r2 =>
  if r2 = 0 then
    some ((-2), σ)
  else
    bd (f_X12_isWithin σ a1 1 20) fun r5 =>
    if r5 = 0 then
      some ((-3), σ)
    else
      bd (f_X12_isWithin σ a2 0 3) fun r8 =>
      if r8 = 0 then
        some ((-3), σ)
      else
        bd (f_X8_isFull σ) fun r11 =>
        if r11 = 0 then
          bd2 (f_X8_add σ a1 a2 a3) fun r14 σ15 =>
          some (r14, σ15)
        else
          some ((-4), σ)
def f_X12_acceptParcel (σ : gM) (a1 : Int32) (a2 : Int32) (a3 : Int32) : Option ((Int32 × gM) ⊕ (Nat × gM)) :=
  bd (f_X7_prepare σ) fun σ2 =>
  bd2 (f_X3_addParcel σ2 a1 a2 a3) fun r4 σ5 =>
  bt2 (f_X12_recorded σ5 r4)
    (fun r7 σ8 =>
      some (.inl (r7, σ8)))
    (fun n9 σ8 => some (.inr (n9, σ8)))
def f_X6_isFull (σ : gM) : Option (Int32) :=
  if (σ 13 2) < 8 then
    some 0
  else
    some 1
def f_X6_add (σ : gM) (a1 : Int32) : Option (Int32 × gM) :=
  nm (σ 13 2) fun x1 =>
  gi x1 8 <|
  nm (mset σ 14 x1.toNatClampNeg a1) fun σ3 =>
  gi x1 8 <|
  nm (mset σ3 15 x1.toNatClampNeg 3) fun σ5 =>
  nm (mset σ5 13 2 ((σ5 13 2) + 1)) fun σ6 =>
  some (x1, σ6)
def f_X3_addGlove (σ : gM) (a1 : Int32) : Option (Int32 × gM) :=
  bd (f_X12_isWithin σ a1 1 3) fun r2 =>
  if r2 = 0 then
    some ((-3), σ)
  else
    bd (f_X6_isFull σ) fun r5 =>
    if r5 = 0 then
      bd2 (f_X6_add σ a1) fun r8 σ9 =>
      some (r8, σ9)
    else
      some ((-4), σ)
def f_X12_buyGlove (σ : gM) (a1 : Int32) : Option ((Int32 × gM) ⊕ (Nat × gM)) :=
  bd (f_X7_prepare σ) fun σ2 =>
  bd2 (f_X3_addGlove σ2 a1) fun r4 σ5 =>
  bt2 (f_X12_recorded σ5 r4)
    (fun r7 σ8 =>
      some (.inl (r7, σ8)))
    (fun n9 σ8 => some (.inr (n9, σ8)))
def f_X8_weightAt_L4 (p1 : Int32) (σ : gM) : Nat → Int32 → Int32 → Option (Int32)
  | 0, _, _ => none
  | n + 1, v2, v3 =>
    if (σ 7 5) ≤ v3 then
      some v2
    else
      gi v3 12 <|
      if (σ 11 v3.toNatClampNeg) = p1 then
        gi v3 12 <|
        nm (v2 + (σ 8 v3.toNatClampNeg)) fun x6 =>
        nm (v3 + 1) fun x7 =>
        f_X8_weightAt_L4 p1 σ n x6 x7
      else
        nm (v3 + 1) fun x4 =>
        f_X8_weightAt_L4 p1 σ n v2 x4
def f_X8_weightAt (σ : gM) (a1 : Int32) : Option (Int32) :=
  bd (f_X8_weightAt_L4 a1 σ gFU 0 0) fun y9 =>
  some y9
def f_X11_resize (σ : gM) (a1 : Int32) (a2 : Int32) : Option (Int32 × gM) :=
  gi a1 3 <|
  nm (σ 18 a1.toNatClampNeg) fun x2 =>
  gi a1 3 <|
  nm (mset σ 18 a1.toNatClampNeg a2) fun σ4 =>
  some (x2, σ4)
def f_X3_changeCapacity (σ : gM) (a1 : Int32) (a2 : Int32) : Option (Int32 × gM) :=
  bd (f_X12_isIndex σ a1 3) fun r2 =>
  if r2 = 0 then
    some ((-2), σ)
  else
    bd (f_X12_isWithin σ a2 1 60) fun r5 =>
    if r5 = 0 then
      some ((-3), σ)
    else
      bd (f_X8_weightAt σ a1) fun r8 =>
      if r8 ≤ a2 then
        bd2 (f_X11_resize σ a1 a2) fun r11 σ12 =>
        some (r11, σ12)
      else
        some ((-4), σ)
def f_X12_setCapacity (σ : gM) (a1 : Int32) (a2 : Int32) : Option ((Int32 × gM) ⊕ (Nat × gM)) :=
  bd (f_X7_prepare σ) fun σ2 =>
  bd2 (f_X3_changeCapacity σ2 a1 a2) fun r4 σ5 =>
  bt2 (f_X12_recorded σ5 r4)
    (fun r7 σ8 =>
      some (.inl (r7, σ8)))
    (fun n9 σ8 => some (.inr (n9, σ8)))
def f_X8_size (σ : gM) : Option (Int32) :=
  some (σ 7 5)
def f_X8_whereIs (σ : gM) (a1 : Int32) : Option (Int32) :=
  gi a1 12 <|
  some (σ 11 a1.toNatClampNeg)
def f_X8_weightOf (σ : gM) (a1 : Int32) : Option (Int32) :=
  gi a1 12 <|
  some (σ 8 a1.toNatClampNeg)
def f_X11_capacityOf (σ : gM) (a1 : Int32) : Option (Int32) :=
  gi a1 3 <|
  some (σ 18 a1.toNatClampNeg)
def f_X3_roomIn (σ : gM) (a1 : Int32) : Option (Int32) :=
  bd (f_X11_capacityOf σ a1) fun r2 =>
  bd (f_X8_weightAt σ a1) fun r4 =>
  some (r2 - r4)
def f_X8_hazardOf (σ : gM) (a1 : Int32) : Option (Int32) :=
  gi a1 12 <|
  some (σ 9 a1.toNatClampNeg)
def f_X6_isPreferred (σ : gM) (a1 : Int32) (a2 : Int32) : Option (Int32) :=
  gi a1 8 <|
  gi a2 8 <|
  if (σ 14 a1.toNatClampNeg) = (σ 14 a2.toNatClampNeg) then
    gi a1 8 <|
    gi a2 8 <|
    if (σ 15 a2.toNatClampNeg) ≤ (σ 15 a1.toNatClampNeg) then
      some 0
    else
      some 1
  else
    gi a1 8 <|
    gi a2 8 <|
    if (σ 14 a2.toNatClampNeg) ≤ (σ 14 a1.toNatClampNeg) then
      some 0
    else
      some 1
def f_X6_bestAgainst_L4 (p1 : Int32) (σ : gM) : Nat → Int32 → Int32 → Option (Int32)
  | 0, _, _ => none
  | n + 1, v2, v3 =>
    if (σ 13 2) ≤ v3 then
      some v2
    else
      gi v3 8 <|
      if (σ 14 v3.toNatClampNeg) < p1 then
        nm (v3 + 1) fun x4 =>
        f_X6_bestAgainst_L4 p1 σ n v2 x4
      else
        if v2 = (-1) then
          nm (v3 + 1) fun x6 =>
          f_X6_bestAgainst_L4 p1 σ n v3 x6
        else
          bd (f_X6_isPreferred σ v3 v2) fun r8 =>
          if r8 = 0 then
            nm (v3 + 1) fun x10 =>
            f_X6_bestAgainst_L4 p1 σ n v2 x10
          else
            nm (v3 + 1) fun x11 =>
            f_X6_bestAgainst_L4 p1 σ n v3 x11
def f_X6_bestAgainst (σ : gM) (a1 : Int32) : Option (Int32) :=
  bd (f_X6_bestAgainst_L4 a1 σ gFU (-1) 0) fun y13 =>
  some y13
def f_X3_isSafe (σ : gM) (a1 : Int32) : Option (Int32) :=
  bd (f_X8_hazardOf σ a1) fun r2 =>
  if r2 = 0 then
    some 1
  else
    bd (f_X6_bestAgainst σ r2) fun r5 =>
    if r5 = (-1) then
      some 0
    else
      some 1
def f_X6_remove_L12  : Nat → Int32 → gM → Option (gM)
  | 0, _, _ => none
  | n + 1, v2, σ =>
    if (σ 13 2) ≤ v2 then
      some σ
    else
      gi (v2 + 1) 8 <|
      gi v2 8 <|
      nm (mset σ 14 v2.toNatClampNeg (σ 14 (v2 + 1).toNatClampNeg)) fun σ5 =>
      gi (v2 + 1) 8 <|
      gi v2 8 <|
      nm (mset σ5 15 v2.toNatClampNeg (σ5 15 (v2 + 1).toNatClampNeg)) fun σ8 =>
      nm (v2 + 1) fun x9 =>
      f_X6_remove_L12 n x9 σ8
def f_X6_remove (σ : gM) (a1 : Int32) : Option (gM) :=
  nm (mset σ 13 2 ((σ 13 2) - 1)) fun σ1 =>
  bd (f_X6_remove_L12 gFU a1 σ1) fun σ11 =>
  some σ11
def f_X6_useAgainst (σ : gM) (a1 : Int32) : Option (gM) :=
  if a1 = 0 then
    some σ
  else
    bd (f_X6_bestAgainst σ a1) fun r3 =>
    if r3 = (-1) then
      some σ
    else
      gi r3 8 <|
      gi r3 8 <|
      nm (mset σ 15 r3.toNatClampNeg ((σ 15 r3.toNatClampNeg) - 1)) fun σ7 =>
      gi r3 8 <|
      if (σ7 15 r3.toNatClampNeg) = 0 then
        bd (f_X6_remove σ7 r3) fun σ11 =>
        nm (mset σ11 13 3 ((σ11 13 3) + 1)) fun σ12 =>
        some σ12
      else
        some σ7
def f_X8_move (σ : gM) (a1 : Int32) (a2 : Int32) : Option (gM) :=
  gi a1 12 <|
  nm (mset σ 11 a1.toNatClampNeg a2) fun σ2 =>
  some σ2
def f_X3_putIn (σ : gM) (a1 : Int32) (a2 : Int32) : Option (Int32 × gM) :=
  bd (f_X8_size σ) fun r2 =>
  bd (f_X12_isIndex σ a1 r2) fun r4 =>
  if r4 = 0 then
    some ((-2), σ)
  else
    bd (f_X12_isIndex σ a2 3) fun r7 =>
    if r7 = 0 then
      some ((-2), σ)
    else
      bd (f_X8_whereIs σ a1) fun r10 =>
      if r10 = (-1) then
        bd (f_X8_weightOf σ a1) fun r13 =>
        bd (f_X3_roomIn σ a2) fun r15 =>
        if r13 ≤ r15 then
          bd (f_X3_isSafe σ a1) fun r18 =>
          if r18 = 0 then
            some ((-6), σ)
          else
            bd (f_X8_hazardOf σ a1) fun r21 =>
            bd (f_X6_useAgainst σ r21) fun σ23 =>
            bd (f_X8_move σ23 a1 a2) fun σ25 =>
            bd (f_X8_weightAt σ25 a2) fun r27 =>
            some (r27, σ25)
        else
          some ((-5), σ)
      else
        some ((-4), σ)
def f_X12_put (σ : gM) (a1 : Int32) (a2 : Int32) : Option ((Int32 × gM) ⊕ (Nat × gM)) :=
  bd (f_X7_prepare σ) fun σ2 =>
  bd2 (f_X3_putIn σ2 a1 a2) fun r4 σ5 =>
  bt2 (f_X12_recorded σ5 r4)
    (fun r7 σ8 =>
      some (.inl (r7, σ8)))
    (fun n9 σ8 => some (.inr (n9, σ8)))
def f_X3_pullOut (σ : gM) (a1 : Int32) : Option (Int32 × gM) :=
  bd (f_X8_size σ) fun r2 =>
  bd (f_X12_isIndex σ a1 r2) fun r4 =>
  if r4 = 0 then
    some ((-2), σ)
  else
    bd (f_X8_whereIs σ a1) fun r7 =>
    bd (f_X12_isIndex σ r7 3) fun r9 =>
    if r9 = 0 then
      some ((-4), σ)
    else
      bd (f_X3_isSafe σ a1) fun r12 =>
      if r12 = 0 then
        some ((-6), σ)
      else
        bd (f_X8_hazardOf σ a1) fun r15 =>
        bd (f_X6_useAgainst σ r15) fun σ17 =>
        bd (f_X8_move σ17 a1 (-1)) fun σ19 =>
        some (r7, σ19)
def f_X12_takeOut (σ : gM) (a1 : Int32) : Option ((Int32 × gM) ⊕ (Nat × gM)) :=
  bd (f_X7_prepare σ) fun σ2 =>
  bd2 (f_X3_pullOut σ2 a1) fun r4 σ5 =>
  bt2 (f_X12_recorded σ5 r4)
    (fun r7 σ8 =>
      some (.inl (r7, σ8)))
    (fun n9 σ8 => some (.inr (n9, σ8)))
def f_X11_placeOf (σ : gM) (a1 : Int32) : Option (Int32) :=
  gi a1 3 <|
  some (σ 17 a1.toNatClampNeg)
def f_X9_nearestOpen_L4  (σ : gM) : Nat → Int32 → Int32 → Option (Int32)
  | 0, _, _ => none
  | n + 1, v1, v2 =>
    if 6 ≤ v2 then
      some v1
    else
      gi v2 6 <|
      if (σ 4 v2.toNatClampNeg) = (-1) then
        nm (v2 + 1) fun x4 =>
        f_X9_nearestOpen_L4 σ n v1 x4
      else
        gi v2 6 <|
        if (σ 5 v2.toNatClampNeg) = 0 then
          if v1 = (-1) then
            nm (v2 + 1) fun x9 =>
            f_X9_nearestOpen_L4 σ n v2 x9
          else
            gi v2 6 <|
            gi v1 6 <|
            if (σ 4 v1.toNatClampNeg) ≤ (σ 4 v2.toNatClampNeg) then
              nm (v2 + 1) fun x13 =>
              f_X9_nearestOpen_L4 σ n v1 x13
            else
              nm (v2 + 1) fun x14 =>
              f_X9_nearestOpen_L4 σ n v2 x14
        else
          nm (v2 + 1) fun x7 =>
          f_X9_nearestOpen_L4 σ n v1 x7
def f_X9_nearestOpen (σ : gM) : Option (Int32) :=
  bd (f_X9_nearestOpen_L4 σ gFU (-1) 0) fun y16 =>
  some y16
def f_X9_goOnFrom_L2 (p1 : Int32) : Nat → Int32 → gM → Option (gM)
  | 0, _, _ => none
  | n + 1, v2, σ =>
    if 6 ≤ v2 then
      some σ
    else
      gi ((p1 * 6) + v2) 36 <|
      nm (σ 3 ((p1 * 6) + v2).toNatClampNeg) fun x3 =>
      gi p1 6 <|
      nm ((σ 4 p1.toNatClampNeg) + x3) fun x5 =>
      if x3 ≤ 0 then
        nm (v2 + 1) fun x7 =>
        f_X9_goOnFrom_L2 p1 n x7 σ
      else
        gi v2 6 <|
        if (σ 4 v2.toNatClampNeg) = (-1) then
          gi v2 6 <|
          nm (mset σ 4 v2.toNatClampNeg x5) fun σ11 =>
          nm (v2 + 1) fun x12 =>
          f_X9_goOnFrom_L2 p1 n x12 σ11
        else
          gi v2 6 <|
          if (σ 4 v2.toNatClampNeg) ≤ x5 then
            nm (v2 + 1) fun x15 =>
            f_X9_goOnFrom_L2 p1 n x15 σ
          else
            gi v2 6 <|
            nm (mset σ 4 v2.toNatClampNeg x5) fun σ17 =>
            nm (v2 + 1) fun x18 =>
            f_X9_goOnFrom_L2 p1 n x18 σ17
def f_X9_goOnFrom (σ : gM) (a1 : Int32) : Option (gM) :=
  bd (f_X9_goOnFrom_L2 a1 gFU 0 σ) fun σ20 =>
  some σ20
def f_X9_measureFrom_L2 (p1 : Int32) : Nat → Int32 → gM → Option (gM)
  | 0, _, _ => none
  | n + 1, v2, σ =>
    if 6 ≤ v2 then
      some σ
    else
      gi v2 6 <|
      nm (mset σ 4 v2.toNatClampNeg (-1)) fun σ3 =>
      gi v2 6 <|
      nm (mset σ3 5 v2.toNatClampNeg (vp_nar .boolean 0)) fun σ5 =>
      nm (v2 + 1) fun x6 =>
      f_X9_measureFrom_L2 p1 n x6 σ5
def f_X9_measureFrom_L37  : Nat → Int32 → gM → Option ((gM) ⊕ (gM))
  | 0, _, _ => none
  | n + 1, v2, σ =>
    if 6 ≤ v2 then
      some (.inr σ)
    else
      bd (f_X9_nearestOpen σ) fun r13 =>
      if r13 = (-1) then
        some (.inl σ)
      else
        gi r13 6 <|
        nm (mset σ 5 r13.toNatClampNeg (vp_nar .boolean 1)) fun σ16 =>
        bd (f_X9_goOnFrom σ16 r13) fun σ18 =>
        nm (v2 + 1) fun x19 =>
        f_X9_measureFrom_L37 n x19 σ18
def f_X9_measureFrom (σ : gM) (a1 : Int32) : Option (gM) :=
  bd (f_X9_measureFrom_L2 a1 gFU 0 σ) fun σ8 =>
  gi a1 6 <|
  nm (mset σ8 4 a1.toNatClampNeg 0) fun σ10 =>
  gs2 (f_X9_measureFrom_L37 gFU 0 σ10)
    (fun σ21 =>
      some σ21)
    (fun σ22 =>
      some σ22)
def f_X9_shortest (σ : gM) (a1 : Int32) (a2 : Int32) : Option (Int32 × gM) :=
  bd (f_X9_measureFrom σ a1) fun σ2 =>
  gi a2 6 <|
  some (σ2 4 a2.toNatClampNeg, σ2)
def f_X11_move (σ : gM) (a1 : Int32) (a2 : Int32) (a3 : Int32) : Option (gM) :=
  gi a1 3 <|
  nm (mset σ 17 a1.toNatClampNeg a2) fun σ2 =>
  nm (mset σ2 16 2 ((σ2 16 2) + a3)) fun σ3 =>
  some σ3
def f_X8_deliverFrom_L5 (p1 : Int32) (p2 : Int32) : Nat → Int32 → Int32 → gM → Option (Int32 × gM)
  | 0, _, _, _ => none
  | n + 1, v3, v4, σ =>
    if (σ 7 5) ≤ v4 then
      some (v3, σ)
    else
      gi v4 12 <|
      if (σ 11 v4.toNatClampNeg) = p1 then
        gi v4 12 <|
        if (σ 10 v4.toNatClampNeg) = p2 then
          gi v4 12 <|
          nm (mset σ 11 v4.toNatClampNeg (-2)) fun σ9 =>
          nm (v3 + 1) fun x10 =>
          nm (v4 + 1) fun x11 =>
          f_X8_deliverFrom_L5 p1 p2 n x10 x11 σ9
        else
          nm (v4 + 1) fun x7 =>
          f_X8_deliverFrom_L5 p1 p2 n v3 x7 σ
      else
        nm (v4 + 1) fun x4 =>
        f_X8_deliverFrom_L5 p1 p2 n v3 x4 σ
def f_X8_deliverFrom (σ : gM) (a1 : Int32) (a2 : Int32) : Option (Int32 × gM) :=
  bd2 (f_X8_deliverFrom_L5 a1 a2 gFU 0 0 σ) fun y13 σ14 =>
  some (y13, σ14)
def f_X3_bring (σ : gM) (a1 : Int32) (a2 : Int32) : Option (Int32 × gM) :=
  bd (f_X12_isIndex σ a1 3) fun r2 =>
  if r2 = 0 then
    some ((-2), σ)
  else
    bd (f_X12_isIndex σ a2 6) fun r5 =>
    if r5 = 0 then
      some ((-2), σ)
    else
      bd (f_X11_placeOf σ a1) fun r8 =>
      if r8 = a2 then
        some ((-3), σ)
      else
        bd (f_X11_placeOf σ a1) fun r11 =>
        bd2 (f_X9_shortest σ r11 a2) fun r13 σ14 =>
        if r13 = (-1) then
          some ((-6), σ14)
        else
          bd (f_X8_weightAt σ14 a1) fun r17 =>
          bd (f_X11_move σ14 a1 a2 (r13 * r17)) fun σ19 =>
          bd2 (f_X8_deliverFrom σ19 a1 a2) fun r21 σ22 =>
          some (r21, σ22)
def f_X12_carry (σ : gM) (a1 : Int32) (a2 : Int32) : Option ((Int32 × gM) ⊕ (Nat × gM)) :=
  bd (f_X7_prepare σ) fun σ2 =>
  bd2 (f_X3_bring σ2 a1 a2) fun r4 σ5 =>
  bt2 (f_X12_recorded σ5 r4)
    (fun r7 σ8 =>
      some (.inl (r7, σ8)))
    (fun n9 σ8 => some (.inr (n9, σ8)))
def f_X8_returnToDepot (σ : gM) (a1 : Int32) : Option (Int32 × gM) :=
  gi a1 12 <|
  nm (mset σ 11 a1.toNatClampNeg (-1)) fun σ2 =>
  gi a1 12 <|
  gi a1 12 <|
  nm (mset σ2 12 a1.toNatClampNeg ((σ2 12 a1.toNatClampNeg) + 1)) fun σ5 =>
  gi a1 12 <|
  if 3 ≤ (σ5 9 a1.toNatClampNeg) then
    gi a1 12 <|
    some (σ5 9 a1.toNatClampNeg, σ5)
  else
    gi a1 12 <|
    gi a1 12 <|
    nm (mset σ5 9 a1.toNatClampNeg ((σ5 9 a1.toNatClampNeg) + 1)) fun σ11 =>
    gi a1 12 <|
    some (σ11 9 a1.toNatClampNeg, σ11)
def f_X3_takeBack (σ : gM) (a1 : Int32) : Option (Int32 × gM) :=
  bd (f_X8_size σ) fun r2 =>
  bd (f_X12_isIndex σ a1 r2) fun r4 =>
  if r4 = 0 then
    some ((-2), σ)
  else
    bd (f_X8_whereIs σ a1) fun r7 =>
    if r7 = (-2) then
      bd2 (f_X8_returnToDepot σ a1) fun r10 σ11 =>
      some (r10, σ11)
    else
      some ((-4), σ)
def f_X12_comeBack (σ : gM) (a1 : Int32) : Option ((Int32 × gM) ⊕ (Nat × gM)) :=
  bd (f_X7_prepare σ) fun σ2 =>
  bd2 (f_X3_takeBack σ2 a1) fun r4 σ5 =>
  bt2 (f_X12_recorded σ5 r4)
    (fun r7 σ8 =>
      some (.inl (r7, σ8)))
    (fun n9 σ8 => some (.inr (n9, σ8)))
def f_X9_size (σ : gM) : Option (Int32) :=
  some (σ 2 4)
def f_X12_roadCount (σ : gM) : Option (Int32) :=
  bd (f_X9_size σ) fun r2 =>
  some r2
def f_X12_requireIndex (σ : gM) (a1 : Int32) (a2 : Int32) : Option ((Unit) ⊕ (Nat)) :=
  bd (f_X12_isIndex σ a1 a2) fun r2 =>
  if r2 = 0 then
    some (.inr 0)
  else
    some (.inl ())
def f_X12_requirePlaces (σ : gM) (a1 : Int32) (a2 : Int32) : Option ((Unit) ⊕ (Nat)) :=
  bt (f_X12_requireIndex σ a1 6)
    (fun u =>
      bt (f_X12_requireIndex σ a2 6)
        (fun u =>
          some (.inl ()))
        (fun n4 => some (.inr n4)))
    (fun n2 => some (.inr n2))
def f_X9_lengthBetween (σ : gM) (a1 : Int32) (a2 : Int32) : Option (Int32) :=
  bd (f_X9_joins σ a1 a2) fun r2 =>
  if r2 = 0 then
    some (-1)
  else
    gi ((a1 * 6) + a2) 36 <|
    some (σ 3 ((a1 * 6) + a2).toNatClampNeg)
def f_X12_present (σ : gM) (a1 : Int32) : Option ((Int32) ⊕ (Nat)) :=
  if a1 = (-1) then
    bt (f_X12_accepted σ (-6))
      (fun r6 =>
        some (.inl r6))
      (fun n7 => some (.inr n7))
  else
    bt (f_X12_accepted σ a1)
      (fun r3 =>
        some (.inl r3))
      (fun n4 => some (.inr n4))
def f_X12_roadLength (σ : gM) (a1 : Int32) (a2 : Int32) : Option ((Int32) ⊕ (Nat)) :=
  bt (f_X12_requirePlaces σ a1 a2)
    (fun u =>
      bd (f_X9_lengthBetween σ a1 a2) fun r4 =>
      bt (f_X12_present σ r4)
        (fun r6 =>
          some (.inl r6))
        (fun n7 => some (.inr n7)))
    (fun n2 => some (.inr n2))
def f_X12_distance (σ : gM) (a1 : Int32) (a2 : Int32) : Option ((Int32 × gM) ⊕ (Nat × gM)) :=
  bt (f_X12_requirePlaces σ a1 a2)
    (fun u =>
      bd2 (f_X9_shortest σ a1 a2) fun r4 σ5 =>
      bt (f_X12_present σ5 r4)
        (fun r7 =>
          some (.inl (r7, σ5)))
        (fun n8 => some (.inr (n8, σ5))))
    (fun n2 => some (.inr (n2, σ)))
def f_X9_shortenBy (σ : gM) (a1 : Int32) (a2 : Int32) (a3 : Int32) : Option (gM) :=
  gi ((a1 * 6) + a2) 36 <|
  nm (σ 6 ((a1 * 6) + a2).toNatClampNeg) fun x2 =>
  gi ((a2 * 6) + a3) 36 <|
  nm (σ 6 ((a2 * 6) + a3).toNatClampNeg) fun x4 =>
  if x2 = (-1) then
    some σ
  else
    if x4 = (-1) then
      some σ
    else
      gi ((a1 * 6) + a3) 36 <|
      nm (σ 6 ((a1 * 6) + a3).toNatClampNeg) fun x8 =>
      if x8 = (-1) then
        gi ((a1 * 6) + a3) 36 <|
        nm (mset σ 6 (((a1 * 6) + a3).toNatClampNeg) (x2 + x4)) fun σ11 =>
        some σ11
      else
        if x8 ≤ (x2 + x4) then
          some σ
        else
          gi ((a1 * 6) + a3) 36 <|
          nm (mset σ 6 (((a1 * 6) + a3).toNatClampNeg) (x2 + x4)) fun σ14 =>
          some σ14
def f_X9_measureByRounds_L10 (p1 : Int32) : Nat → Int32 → gM → Option (gM)
  | 0, _, _ => none
  | n + 1, v2, σ =>
    if 6 ≤ v2 then
      some σ
    else
      if p1 = v2 then
        gi ((p1 * 6) + v2) 36 <|
        nm (mset σ 6 (((p1 * 6) + v2).toNatClampNeg) 0) fun σ10 =>
        nm (v2 + 1) fun x11 =>
        f_X9_measureByRounds_L10 p1 n x11 σ10
      else
        bd (f_X9_lengthBetween σ p1 v2) fun r5 =>
        gi ((p1 * 6) + v2) 36 <|
        nm (mset σ 6 (((p1 * 6) + v2).toNatClampNeg) r5) fun σ7 =>
        nm (v2 + 1) fun x8 =>
        f_X9_measureByRounds_L10 p1 n x8 σ7
def f_X9_measureByRounds_L2  : Nat → Int32 → gM → Option (gM)
  | 0, _, _ => none
  | n + 1, v1, σ =>
    if 6 ≤ v1 then
      some σ
    else
      bd (f_X9_measureByRounds_L10 v1 gFU 0 σ) fun σ13 =>
      nm (v1 + 1) fun x14 =>
      f_X9_measureByRounds_L2 n x14 σ13
def f_X9_measureByRounds_L72 (p1 : Int32) (p2 : Int32) : Nat → Int32 → gM → Option (gM)
  | 0, _, _ => none
  | n + 1, v3, σ =>
    if 6 ≤ v3 then
      some σ
    else
      bd (f_X9_shortenBy σ p2 p1 v3) fun σ21 =>
      nm (v3 + 1) fun x22 =>
      f_X9_measureByRounds_L72 p1 p2 n x22 σ21
def f_X9_measureByRounds_L64 (p1 : Int32) : Nat → Int32 → gM → Option (gM)
  | 0, _, _ => none
  | n + 1, v2, σ =>
    if 6 ≤ v2 then
      some σ
    else
      bd (f_X9_measureByRounds_L72 p1 v2 gFU 0 σ) fun σ24 =>
      nm (v2 + 1) fun x25 =>
      f_X9_measureByRounds_L64 p1 n x25 σ24
def f_X9_measureByRounds_L56  : Nat → Int32 → gM → Option (gM)
  | 0, _, _ => none
  | n + 1, v1, σ =>
    if 6 ≤ v1 then
      some σ
    else
      bd (f_X9_measureByRounds_L64 v1 gFU 0 σ) fun σ27 =>
      nm (v1 + 1) fun x28 =>
      f_X9_measureByRounds_L56 n x28 σ27
def f_X9_measureByRounds (σ : gM) : Option (gM) :=
  bd (f_X9_measureByRounds_L2 gFU 0 σ) fun σ16 =>
  bd (f_X9_measureByRounds_L56 gFU 0 σ16) fun σ30 =>
  some σ30
def f_X9_measuredByRounds (σ : gM) (a1 : Int32) (a2 : Int32) : Option (Int32) :=
  gi ((a1 * 6) + a2) 36 <|
  some (σ 6 ((a1 * 6) + a2).toNatClampNeg)
def f_X12_distanceByRounds (σ : gM) (a1 : Int32) (a2 : Int32) : Option ((Int32 × gM) ⊕ (Nat × gM)) :=
  bt (f_X12_requirePlaces σ a1 a2)
    (fun u =>
      bd (f_X9_measureByRounds σ) fun σ4 =>
      bd (f_X9_measuredByRounds σ4 a1 a2) fun r6 =>
      bt (f_X12_present σ4 r6)
        (fun r8 =>
          some (.inl (r8, σ4)))
        (fun n9 => some (.inr (n9, σ4))))
    (fun n2 => some (.inr (n2, σ)))
def f_X9_farthestFrom_L9  (σ : gM) : Nat → Int32 → Int32 → Option (Int32)
  | 0, _, _ => none
  | n + 1, v2, v3 =>
    if 6 ≤ v3 then
      some v2
    else
      gi v3 6 <|
      gi v2 6 <|
      if (σ 4 v3.toNatClampNeg) ≤ (σ 4 v2.toNatClampNeg) then
        nm (v3 + 1) fun x7 =>
        f_X9_farthestFrom_L9 σ n v2 x7
      else
        nm (v3 + 1) fun x8 =>
        f_X9_farthestFrom_L9 σ n v3 x8
def f_X9_farthestFrom (σ : gM) (a1 : Int32) : Option (Int32 × gM) :=
  bd (f_X9_measureFrom σ a1) fun σ2 =>
  bd (f_X9_farthestFrom_L9 σ2 gFU a1 0) fun y10 =>
  some (y10, σ2)
def f_X12_farthestPlace (σ : gM) (a1 : Int32) : Option ((Int32 × gM) ⊕ (Nat × gM)) :=
  bt (f_X12_requireIndex σ a1 6)
    (fun u =>
      bd2 (f_X9_farthestFrom σ a1) fun r4 σ5 =>
      some (.inl (r4, σ5)))
    (fun n2 => some (.inr (n2, σ)))
def f_X12_parcelCount (σ : gM) : Option (Int32) :=
  bd (f_X8_size σ) fun r2 =>
  some r2
def f_X12_requireParcel (σ : gM) (a1 : Int32) : Option ((Unit) ⊕ (Nat)) :=
  bd (f_X8_size σ) fun r2 =>
  bt (f_X12_requireIndex σ a1 r2)
    (fun u =>
      some (.inl ()))
    (fun n4 => some (.inr n4))
def f_X12_weight (σ : gM) (a1 : Int32) : Option ((Int32) ⊕ (Nat)) :=
  bt (f_X12_requireParcel σ a1)
    (fun u =>
      bd (f_X8_weightOf σ a1) fun r4 =>
      some (.inl r4))
    (fun n2 => some (.inr n2))
def f_X12_hazard (σ : gM) (a1 : Int32) : Option ((Int32) ⊕ (Nat)) :=
  bt (f_X12_requireParcel σ a1)
    (fun u =>
      bd (f_X8_hazardOf σ a1) fun r4 =>
      some (.inl r4))
    (fun n2 => some (.inr n2))
def f_X8_destinationOf (σ : gM) (a1 : Int32) : Option (Int32) :=
  gi a1 12 <|
  some (σ 10 a1.toNatClampNeg)
def f_X12_destination (σ : gM) (a1 : Int32) : Option ((Int32) ⊕ (Nat)) :=
  bt (f_X12_requireParcel σ a1)
    (fun u =>
      bd (f_X8_destinationOf σ a1) fun r4 =>
      some (.inl r4))
    (fun n2 => some (.inr n2))
def f_X8_stateOf (σ : gM) (a1 : Int32) : Option (Int32) :=
  gi a1 12 <|
  if (σ 11 a1.toNatClampNeg) = (-1) then
    some 119
  else
    gi a1 12 <|
    if (σ 11 a1.toNatClampNeg) = (-2) then
      some 100
    else
      some 115
def f_X12_state (σ : gM) (a1 : Int32) : Option ((Int32) ⊕ (Nat)) :=
  bt (f_X12_requireParcel σ a1)
    (fun u =>
      bd (f_X8_stateOf σ a1) fun r4 =>
      gn .char r4 <|
      some (.inl r4))
    (fun n2 => some (.inr n2))
def f_X12_sackOf (σ : gM) (a1 : Int32) : Option ((Int32) ⊕ (Nat)) :=
  bt (f_X12_requireParcel σ a1)
    (fun u =>
      bd (f_X8_whereIs σ a1) fun r4 =>
      bd (f_X12_isIndex σ r4 3) fun r6 =>
      if r6 = 0 then
        bt (f_X12_present σ (-1))
          (fun r9 =>
            some (.inl r9))
          (fun n10 => some (.inr n10))
      else
        bt (f_X12_present σ r4)
          (fun r12 =>
            some (.inl r12))
          (fun n13 => some (.inr n13)))
    (fun n2 => some (.inr n2))
def f_X8_returnsOf (σ : gM) (a1 : Int32) : Option (Int32) :=
  gi a1 12 <|
  some (σ 12 a1.toNatClampNeg)
def f_X12_returns (σ : gM) (a1 : Int32) : Option ((Int32) ⊕ (Nat)) :=
  bt (f_X12_requireParcel σ a1)
    (fun u =>
      bd (f_X8_returnsOf σ a1) fun r4 =>
      some (.inl r4))
    (fun n2 => some (.inr n2))
def f_X8_countAt_L4 (p1 : Int32) (σ : gM) : Nat → Int32 → Int32 → Option (Int32)
  | 0, _, _ => none
  | n + 1, v2, v3 =>
    if (σ 7 5) ≤ v3 then
      some v2
    else
      gi v3 12 <|
      if (σ 11 v3.toNatClampNeg) = p1 then
        nm (v2 + 1) fun x5 =>
        nm (v3 + 1) fun x6 =>
        f_X8_countAt_L4 p1 σ n x5 x6
      else
        nm (v3 + 1) fun x4 =>
        f_X8_countAt_L4 p1 σ n v2 x4
def f_X8_countAt (σ : gM) (a1 : Int32) : Option (Int32) :=
  bd (f_X8_countAt_L4 a1 σ gFU 0 0) fun y8 =>
  some y8
def f_X12_waitingCount (σ : gM) : Option (Int32) :=
  bd (f_X8_countAt σ (-1)) fun r2 =>
  some r2
def f_X12_deliveredCount (σ : gM) : Option (Int32) :=
  bd (f_X8_countAt σ (-2)) fun r2 =>
  some r2
def f_X6_size (σ : gM) : Option (Int32) :=
  some (σ 13 2)
def f_X12_gloveCount (σ : gM) : Option (Int32) :=
  bd (f_X6_size σ) fun r2 =>
  some r2
def f_X6_gradeOf (σ : gM) (a1 : Int32) : Option (Int32) :=
  gi a1 8 <|
  some (σ 14 a1.toNatClampNeg)
def f_X12_grade (σ : gM) (a1 : Int32) : Option ((Int32) ⊕ (Nat)) :=
  bd (f_X6_size σ) fun r2 =>
  bt (f_X12_requireIndex σ a1 r2)
    (fun u =>
      bd (f_X6_gradeOf σ a1) fun r6 =>
      some (.inl r6))
    (fun n4 => some (.inr n4))
def f_X6_usesLeftOf (σ : gM) (a1 : Int32) : Option (Int32) :=
  gi a1 8 <|
  some (σ 15 a1.toNatClampNeg)
def f_X12_usesLeft (σ : gM) (a1 : Int32) : Option ((Int32) ⊕ (Nat)) :=
  bd (f_X6_size σ) fun r2 =>
  bt (f_X12_requireIndex σ a1 r2)
    (fun u =>
      bd (f_X6_usesLeftOf σ a1) fun r6 =>
      some (.inl r6))
    (fun n4 => some (.inr n4))
def f_X12_gloveFor (σ : gM) (a1 : Int32) : Option ((Int32) ⊕ (Nat)) :=
  bt (f_X12_requireParcel σ a1)
    (fun u =>
      bd (f_X8_hazardOf σ a1) fun r4 =>
      if r4 = 0 then
        bt (f_X12_accepted σ (-5))
          (fun r12 =>
            some (.inl r12))
          (fun n13 => some (.inr n13))
      else
        bd (f_X6_bestAgainst σ r4) fun r7 =>
        bt (f_X12_present σ r7)
          (fun r9 =>
            some (.inl r9))
          (fun n10 => some (.inr n10)))
    (fun n2 => some (.inr n2))
def f_X12_canHandle (σ : gM) (a1 : Int32) : Option ((Int32) ⊕ (Nat)) :=
  bt (f_X12_requireParcel σ a1)
    (fun u =>
      bd (f_X3_isSafe σ a1) fun r4 =>
      gn .boolean r4 <|
      some (.inl r4))
    (fun n2 => some (.inr n2))
def f_X6_usesOfGrade_L4 (p1 : Int32) (σ : gM) : Nat → Int32 → Int32 → Option (Int32)
  | 0, _, _ => none
  | n + 1, v2, v3 =>
    if (σ 13 2) ≤ v3 then
      some v2
    else
      gi v3 8 <|
      if (σ 14 v3.toNatClampNeg) = p1 then
        gi v3 8 <|
        nm (v2 + (σ 15 v3.toNatClampNeg)) fun x6 =>
        nm (v3 + 1) fun x7 =>
        f_X6_usesOfGrade_L4 p1 σ n x6 x7
      else
        nm (v3 + 1) fun x4 =>
        f_X6_usesOfGrade_L4 p1 σ n v2 x4
def f_X6_usesOfGrade (σ : gM) (a1 : Int32) : Option (Int32) :=
  bd (f_X6_usesOfGrade_L4 a1 σ gFU 0 0) fun y9 =>
  some y9
def f_X8_waitingOfHazard_L4 (p1 : Int32) (σ : gM) : Nat → Int32 → Int32 → Option (Int32)
  | 0, _, _ => none
  | n + 1, v2, v3 =>
    if (σ 7 5) ≤ v3 then
      some v2
    else
      gi v3 12 <|
      if (σ 11 v3.toNatClampNeg) = (-1) then
        gi v3 12 <|
        if (σ 9 v3.toNatClampNeg) = p1 then
          nm (v2 + 1) fun x8 =>
          nm (v3 + 1) fun x9 =>
          f_X8_waitingOfHazard_L4 p1 σ n x8 x9
        else
          nm (v3 + 1) fun x7 =>
          f_X8_waitingOfHazard_L4 p1 σ n v2 x7
      else
        nm (v3 + 1) fun x4 =>
        f_X8_waitingOfHazard_L4 p1 σ n v2 x4
def f_X8_waitingOfHazard (σ : gM) (a1 : Int32) : Option (Int32) :=
  bd (f_X8_waitingOfHazard_L4 a1 σ gFU 0 0) fun y11 =>
  some y11
def f_X4_handledOf_L5 (p2 : Int32) : Nat → Int32 → Int32 → gM → Option (Int32 × gM)
  | 0, _, _, _ => none
  | n + 1, v3, v4, σ =>
    if 3 < v4 then
      some (v3, σ)
    else
      gi v4 4 <|
      nm (if (σ 202 v4.toNatClampNeg) < v3 then (σ 202 v4.toNatClampNeg) else v3) fun x3 =>
      gi v4 4 <|
      gi v4 4 <|
      nm (mset σ 202 v4.toNatClampNeg ((σ 202 v4.toNatClampNeg) - x3)) fun σ6 =>
      nm (v3 - x3) fun x7 =>
      nm (v4 + 1) fun x8 =>
      f_X4_handledOf_L5 p2 n x7 x8 σ6
def f_X4_handledOf (σ : gM) (a1 : Int32) (a2 : Int32) : Option (Int32 × gM) :=
  bd2 (f_X4_handledOf_L5 a2 gFU a2 a1 σ) fun y10 σ11 =>
  some (a2 - y10, σ11)
def f_X4_handledGreedily_L2  : Nat → Int32 → gM → Option (gM)
  | 0, _, _ => none
  | n + 1, v2, σ =>
    if 3 < v2 then
      some σ
    else
      bd (f_X6_usesOfGrade σ v2) fun r3 =>
      gi v2 4 <|
      nm (mset σ 202 v2.toNatClampNeg r3) fun σ5 =>
      nm (v2 + 1) fun x6 =>
      f_X4_handledGreedily_L2 n x6 σ5
def f_X4_handledGreedily_L38  : Nat → Int32 → Int32 → gM → Option (Int32 × gM)
  | 0, _, _, _ => none
  | n + 1, v2, v3, σ =>
    if 3 < v3 then
      some (v2, σ)
    else
      bd (f_X8_waitingOfHazard σ v3) fun r13 =>
      bd2 (f_X4_handledOf σ v3 r13) fun r15 σ16 =>
      nm (v2 + r15) fun x17 =>
      nm (v3 + 1) fun x18 =>
      f_X4_handledGreedily_L38 n x17 x18 σ16
def f_X4_handledGreedily (σ : gM) : Option (Int32 × gM) :=
  bd (f_X4_handledGreedily_L2 gFU 1 σ) fun σ8 =>
  bd (f_X8_waitingOfHazard σ8 0) fun r10 =>
  bd2 (f_X4_handledGreedily_L38 gFU r10 1 σ8) fun y20 σ21 =>
  some (y20, σ21)
def f_X12_handleable (σ : gM) : Option (Int32 × gM) :=
  bd2 (f_X4_handledGreedily σ) fun r2 σ3 =>
  some (r2, σ3)
def f_X4_handledByShortage_L7  (σ : gM) : Nat → Int32 → Int32 → Int32 → Option (Int32)
  | 0, _, _, _ => none
  | n + 1, v2, v3, v4 =>
    if v4 < 1 then
      some v3
    else
      bd (f_X8_waitingOfHazard σ v4) fun r3 =>
      bd (f_X6_usesOfGrade σ v4) fun r5 =>
      nm (v2 + (r3 - r5)) fun x6 =>
      nm (if v3 < x6 then x6 else v3) fun x7 =>
      nm (v4 + (-1)) fun x8 =>
      f_X4_handledByShortage_L7 σ n x6 x7 x8
def f_X4_handledByShortage (σ : gM) : Option (Int32) :=
  bd (f_X4_handledByShortage_L7 σ gFU 0 0 3) fun y10 =>
  bd (f_X8_countAt σ (-1)) fun r12 =>
  some (r12 - y10)
def f_X12_handleableByShortage (σ : gM) : Option (Int32) :=
  bd (f_X4_handledByShortage σ) fun r2 =>
  some r2
def f_X12_place (σ : gM) (a1 : Int32) : Option ((Int32) ⊕ (Nat)) :=
  bt (f_X12_requireIndex σ a1 3)
    (fun u =>
      bd (f_X11_placeOf σ a1) fun r4 =>
      some (.inl r4))
    (fun n2 => some (.inr n2))
def f_X12_capacity (σ : gM) (a1 : Int32) : Option ((Int32) ⊕ (Nat)) :=
  bt (f_X12_requireIndex σ a1 3)
    (fun u =>
      bd (f_X11_capacityOf σ a1) fun r4 =>
      some (.inl r4))
    (fun n2 => some (.inr n2))
def f_X12_load (σ : gM) (a1 : Int32) : Option ((Int32) ⊕ (Nat)) :=
  bt (f_X12_requireIndex σ a1 3)
    (fun u =>
      bd (f_X8_weightAt σ a1) fun r4 =>
      some (.inl r4))
    (fun n2 => some (.inr n2))
def f_X12_parcelsIn (σ : gM) (a1 : Int32) : Option ((Int32) ⊕ (Nat)) :=
  bt (f_X12_requireIndex σ a1 3)
    (fun u =>
      bd (f_X8_countAt σ a1) fun r4 =>
      some (.inl r4))
    (fun n2 => some (.inr n2))
def f_X8_waitingOfWeight_L4 (p1 : Int32) (σ : gM) : Nat → Int32 → Int32 → Option (Int32)
  | 0, _, _ => none
  | n + 1, v2, v3 =>
    if (σ 7 5) ≤ v3 then
      some v2
    else
      gi v3 12 <|
      if (σ 11 v3.toNatClampNeg) = (-1) then
        gi v3 12 <|
        if (σ 8 v3.toNatClampNeg) = p1 then
          nm (v2 + 1) fun x8 =>
          nm (v3 + 1) fun x9 =>
          f_X8_waitingOfWeight_L4 p1 σ n x8 x9
        else
          nm (v3 + 1) fun x7 =>
          f_X8_waitingOfWeight_L4 p1 σ n v2 x7
      else
        nm (v3 + 1) fun x4 =>
        f_X8_waitingOfWeight_L4 p1 σ n v2 x4
def f_X8_waitingOfWeight (σ : gM) (a1 : Int32) : Option (Int32) :=
  bd (f_X8_waitingOfWeight_L4 a1 σ gFU 0 0) fun y11 =>
  some y11
def f_X4_fittingGreedily_L12  (σ : gM) : Nat → Int32 → Int32 → Int32 → Option (Int32)
  | 0, _, _, _ => none
  | n + 1, v3, v4, v5 =>
    if 20 < v5 then
      some v4
    else
      bd (f_X8_waitingOfWeight σ v5) fun r5 =>
      gz (v5) <|
      nm (if (v3 / v5) < r5 then (v3 / v5) else r5) fun x7 =>
      nm (v4 + x7) fun x8 =>
      nm (v3 - (x7 * v5)) fun x9 =>
      nm (v5 + 1) fun x10 =>
      f_X4_fittingGreedily_L12 σ n x9 x8 x10
def f_X4_fittingGreedily (σ : gM) (a2 : Int32) : Option (Int32) :=
  bd (f_X3_roomIn σ a2) fun r2 =>
  bd (f_X4_fittingGreedily_L12 σ gFU r2 0 1) fun y12 =>
  some y12
def f_X12_mostFitting (σ : gM) (a1 : Int32) : Option ((Int32) ⊕ (Nat)) :=
  bt (f_X12_requireIndex σ a1 3)
    (fun u =>
      bd (f_X4_fittingGreedily σ a1) fun r4 =>
      some (.inl r4))
    (fun n2 => some (.inr n2))
def f_X4_enter_L2 (p1 : Int32) : Nat → Int32 → gM → Option (gM)
  | 0, _, _ => none
  | n + 1, v3, σ =>
    if v3 < p1 then
      some σ
    else
      gi v3 61 <|
      gi (v3 - p1) 61 <|
      gi v3 61 <|
      nm (mset σ 203 v3.toNatClampNeg (if (σ 203 v3.toNatClampNeg) < ((σ 203 (v3 - p1).toNatClampNeg) + 1) then ((σ 203 (v3 - p1).toNatClampNeg) + 1) else (σ 203 v3.toNatClampNeg))) fun σ5 =>
      nm (v3 + (-1)) fun x6 =>
      f_X4_enter_L2 p1 n x6 σ5
def f_X4_enter (σ : gM) (a1 : Int32) (a2 : Int32) : Option (gM) :=
  bd (f_X4_enter_L2 a1 gFU a2 σ) fun σ8 =>
  some σ8
def f_X4_fittingByTable_L23 (p3 : Int32) : Nat → Int32 → gM → Option (gM)
  | 0, _, _ => none
  | n + 1, v4, σ =>
    if p3 < v4 then
      some σ
    else
      gi v4 61 <|
      nm (mset σ 203 v4.toNatClampNeg 0) fun σ8 =>
      nm (v4 + 1) fun x9 =>
      f_X4_fittingByTable_L23 p3 n x9 σ8
def f_X4_fittingByTable_L46 (p3 : Int32) : Nat → Int32 → gM → Option (gM)
  | 0, _, _ => none
  | n + 1, v4, σ =>
    bd (f_X8_size σ) fun r13 =>
    if r13 ≤ v4 then
      some σ
    else
      bd (f_X8_whereIs σ v4) fun r16 =>
      if r16 = (-1) then
        bd (f_X8_weightOf σ v4) fun r20 =>
        bd (f_X4_enter σ r20 p3) fun σ22 =>
        nm (v4 + 1) fun x23 =>
        f_X4_fittingByTable_L46 p3 n x23 σ22
      else
        nm (v4 + 1) fun x18 =>
        f_X4_fittingByTable_L46 p3 n x18 σ
def f_X4_fittingByTable (σ : gM) (a2 : Int32) : Option (Int32 × gM) :=
  bd (f_X3_roomIn σ a2) fun r2 =>
  bd (f_X12_isIndex σ r2 61) fun r4 =>
  if r4 = 0 then
    some (0, σ)
  else
    bd (f_X4_fittingByTable_L23 r2 gFU 0 σ) fun σ11 =>
    bd (f_X4_fittingByTable_L46 r2 gFU 0 σ11) fun σ25 =>
    gi r2 61 <|
    some (σ25 203 r2.toNatClampNeg, σ25)
def f_X12_mostFittingByTable (σ : gM) (a1 : Int32) : Option ((Int32 × gM) ⊕ (Nat × gM)) :=
  bt (f_X12_requireIndex σ a1 3)
    (fun u =>
      bd2 (f_X4_fittingByTable σ a1) fun r4 σ5 =>
      some (.inl (r4, σ5)))
    (fun n2 => some (.inr (n2, σ)))
def f_X3_effortOf (σ : gM) (a1 : Int32) (a2 : Int32) : Option (Int32 × gM) :=
  bd (f_X11_placeOf σ a1) fun r2 =>
  bd2 (f_X9_shortest σ r2 a2) fun r4 σ5 =>
  if r4 = (-1) then
    some ((-1), σ5)
  else
    bd (f_X8_weightAt σ5 a1) fun r8 =>
    some (r4 * r8, σ5)
def f_X12_effortTo (σ : gM) (a1 : Int32) (a2 : Int32) : Option ((Int32 × gM) ⊕ (Nat × gM)) :=
  bt (f_X12_requireIndex σ a1 3)
    (fun u =>
      bt (f_X12_requireIndex σ a2 6)
        (fun u =>
          bd2 (f_X3_effortOf σ a1 a2) fun r6 σ7 =>
          bt (f_X12_present σ7 r6)
            (fun r9 =>
              some (.inl (r9, σ7)))
            (fun n10 => some (.inr (n10, σ7))))
        (fun n4 => some (.inr (n4, σ))))
    (fun n2 => some (.inr (n2, σ)))
def f_X11_effortOfAll (σ : gM) : Option (Int32) :=
  some (σ 16 2)
def f_X12_effortSoFar (σ : gM) : Option (Int32) :=
  bd (f_X11_effortOfAll σ) fun r2 =>
  some r2
def f_X6_goneCount (σ : gM) : Option (Int32) :=
  some (σ 13 3)
def f_X12_glovesUsedUp (σ : gM) : Option (Int32) :=
  bd (f_X6_goneCount σ) fun r2 =>
  some r2
def f_X8_comesBefore (σ : gM) (a1 : Int32) (a2 : Int32) : Option (Int32) :=
  gi a1 12 <|
  gi a2 12 <|
  if (σ 8 a1.toNatClampNeg) = (σ 8 a2.toNatClampNeg) then
    gi a1 12 <|
    gi a2 12 <|
    if (σ 9 a1.toNatClampNeg) = (σ 9 a2.toNatClampNeg) then
      if a2 ≤ a1 then
        some 0
      else
        some 1
    else
      gi a1 12 <|
      gi a2 12 <|
      if (σ 9 a1.toNatClampNeg) ≤ (σ 9 a2.toNatClampNeg) then
        some 0
      else
        some 1
  else
    gi a1 12 <|
    gi a2 12 <|
    if (σ 8 a1.toNatClampNeg) ≤ (σ 8 a2.toNatClampNeg) then
      some 0
    else
      some 1
def f_X8_rankOf_L4 (p1 : Int32) (σ : gM) : Nat → Int32 → Int32 → Option (Int32)
  | 0, _, _ => none
  | n + 1, v2, v3 =>
    if (σ 7 5) ≤ v3 then
      some v2
    else
      gi v3 12 <|
      if (σ 11 v3.toNatClampNeg) = (-2) then
        nm (v3 + 1) fun x4 =>
        f_X8_rankOf_L4 p1 σ n v2 x4
      else
        bd (f_X8_comesBefore σ v3 p1) fun r6 =>
        if r6 = 0 then
          nm (v3 + 1) fun x8 =>
          f_X8_rankOf_L4 p1 σ n v2 x8
        else
          nm (v2 + 1) fun x9 =>
          nm (v3 + 1) fun x10 =>
          f_X8_rankOf_L4 p1 σ n x9 x10
def f_X8_rankOf (σ : gM) (a1 : Int32) : Option (Int32) :=
  bd (f_X8_rankOf_L4 a1 σ gFU 0 0) fun y12 =>
  some y12
def f_X8_atRank_L2 (p1 : Int32) (σ : gM) : Nat → Int32 → Option ((Int32) ⊕ (Unit))
  | 0, _ => none
  | n + 1, v2 =>
    if (σ 7 5) ≤ v2 then
      some (.inr ())
    else
      gi v2 12 <|
      if (σ 11 v2.toNatClampNeg) = (-2) then
        nm (v2 + 1) fun x4 =>
        f_X8_atRank_L2 p1 σ n x4
      else
        bd (f_X8_rankOf σ v2) fun r6 =>
        if r6 = p1 then
          some (.inl v2)
        else
          nm (v2 + 1) fun x8 =>
          f_X8_atRank_L2 p1 σ n x8
def f_X8_atRank (σ : gM) (a1 : Int32) : Option (Int32) :=
  gs2 (f_X8_atRank_L2 a1 σ gFU 0)
    (fun y10 =>
      some y10)
    (fun _ =>
      some (-1))
def f_X12_heaviest (σ : gM) (a1 : Int32) : Option ((Int32) ⊕ (Nat)) :=
  bd (f_X8_atRank σ a1) fun r2 =>
  bt (f_X12_present σ r2)
    (fun r4 =>
      some (.inl r4))
    (fun n5 => some (.inr n5))
def f_X8_sumOfHazards_L4  (σ : gM) : Nat → Int32 → Int32 → Option (Int32)
  | 0, _, _ => none
  | n + 1, v1, v2 =>
    if (σ 7 5) ≤ v2 then
      some v1
    else
      gi v2 12 <|
      nm (v1 + (σ 9 v2.toNatClampNeg)) fun x3 =>
      nm (v2 + 1) fun x4 =>
      f_X8_sumOfHazards_L4 σ n x3 x4
def f_X8_sumOfHazards (σ : gM) : Option (Int32) :=
  bd (f_X8_sumOfHazards_L4 σ gFU 0 0) fun y6 =>
  some y6
def f_X12_meanHazard (σ : gM) : Option ((UInt64) ⊕ (Nat)) :=
  bd (f_X8_size σ) fun r2 =>
  if r2 = 0 then
    some (.inr 5)
  else
    bd (f_X8_sumOfHazards σ) fun r5 =>
    gnd (FP.ddiv (FP.i2d r5) (FP.i2d r2)) <|
    some (.inl (FP.ddiv (FP.i2d r5) (FP.i2d r2)))
def f_X12_deliveredShare (σ : gM) : Option ((UInt32) ⊕ (Nat)) :=
  bd (f_X8_size σ) fun r2 =>
  if r2 = 0 then
    some (.inr 5)
  else
    bd (f_X8_countAt σ (-2)) fun r5 =>
    gnf (FP.fdiv (FP.i2f r5) (FP.i2f r2)) <|
    some (.inl (FP.fdiv (FP.i2f r5) (FP.i2f r2)))
def f_X9_bothDistancesAgree_L19 (p1 : Int32) (σ : gM) : Nat → Int32 → Option ((Unit) ⊕ (Unit))
  | 0, _ => none
  | n + 1, v2 =>
    if 6 ≤ v2 then
      some (.inr ())
    else
      gi v2 6 <|
      bd (f_X9_measuredByRounds σ p1 v2) fun r9 =>
      if (σ 4 v2.toNatClampNeg) = r9 then
        nm (v2 + 1) fun x11 =>
        f_X9_bothDistancesAgree_L19 p1 σ n x11
      else
        some (.inl ())
def f_X9_bothDistancesAgree_L6  : Nat → Int32 → gM → Option ((gM) ⊕ (gM))
  | 0, _, _ => none
  | n + 1, v1, σ =>
    if 6 ≤ v1 then
      some (.inr σ)
    else
      bd (f_X9_measureFrom σ v1) fun σ5 =>
      gs2 (f_X9_bothDistancesAgree_L19 v1 σ5 gFU 0)
        (fun _ =>
          some (.inl σ5))
        (fun _ =>
          nm (v1 + 1) fun x13 =>
          f_X9_bothDistancesAgree_L6 n x13 σ5)
def f_X9_bothDistancesAgree (σ : gM) : Option (Int32 × gM) :=
  bd (f_X9_measureByRounds σ) fun σ2 =>
  gs2 (f_X9_bothDistancesAgree_L6 gFU 0 σ2)
    (fun σ15 =>
      some (0, σ15))
    (fun σ16 =>
      some (1, σ16))
def f_X12_handlingAgrees (σ : gM) : Option (Int32 × gM) :=
  bd2 (f_X4_handledGreedily σ) fun r2 σ3 =>
  bd (f_X4_handledByShortage σ3) fun r5 =>
  if r2 = r5 then
    some (1, σ3)
  else
    some (0, σ3)
def f_X12_sacksAgree_L2  : Nat → Int32 → gM → Option ((gM) ⊕ ((gM) ⊕ (gM)))
  | 0, _, _ => none
  | n + 1, v1, σ =>
    if 3 ≤ v1 then
      some (.inr (.inr σ))
    else
      bd (f_X4_fittingGreedily σ v1) fun r3 =>
      bd2 (f_X4_fittingByTable σ v1) fun r5 σ6 =>
      if r3 = r5 then
        bd (f_X3_roomIn σ6 v1) fun r9 =>
        if 0 ≤ r9 then
          nm (v1 + 1) fun x11 =>
          f_X12_sacksAgree_L2 n x11 σ6
        else
          some (.inr (.inl σ6))
      else
        some (.inl σ6)
def f_X12_sacksAgree (σ : gM) : Option (Int32 × gM) :=
  gs3 (f_X12_sacksAgree_L2 gFU 0 σ)
    (fun σ13 =>
      some (0, σ13))
    (fun σ14 =>
      some (0, σ14))
    (fun σ15 =>
      some (1, σ15))
def f_X12_isConsistent (σ : gM) : Option (Int32 × gM) :=
  bd2 (f_X9_bothDistancesAgree σ) fun r2 σ3 =>
  if r2 = 0 then
    some (0, σ3)
  else
    bd2 (f_X12_handlingAgrees σ3) fun r6 σ7 =>
    if r6 = 0 then
      some (0, σ7)
    else
      bd2 (f_X12_sacksAgree σ7) fun r10 σ11 =>
      if r10 = 0 then
        some (0, σ11)
      else
        some (1, σ11)
def f_X2_isFull (σ : gM) : Option (Int32) :=
  if (σ 204 2) < 60 then
    some 0
  else
    some 1
def f_X2_add (σ : gM) (a1 : Int32) : Option (Int32 × gM) :=
  gi (σ 204 2) 60 <|
  nm (mset σ 205 ((σ 204 2).toNatClampNeg) (vp_nar .char a1)) fun σ2 =>
  nm (mset σ2 204 2 ((σ2 204 2) + 1)) fun σ3 =>
  some (σ3 204 2, σ3)
def f_X12_feed (σ : gM) (a1 : Int32) : Option ((Int32 × gM) ⊕ (Nat × gM)) :=
  bd (f_X2_isFull σ) fun r2 =>
  if r2 = 0 then
    bd2 (f_X2_add σ a1) fun r5 σ6 =>
    bt (f_X12_accepted σ6 r5)
      (fun r8 =>
        some (.inl (r8, σ6)))
      (fun n9 => some (.inr (n9, σ6)))
  else
    bt (f_X12_accepted σ (-4))
      (fun r11 =>
        some (.inl (r11, σ)))
      (fun n12 => some (.inr (n12, σ)))
def f_X2_isDigit (σ : gM) (a1 : Int32) : Option (Int32) :=
  if (σ 204 2) ≤ a1 then
    some 0
  else
    gi a1 60 <|
    if (σ 205 a1.toNatClampNeg) < 48 then
      some 0
    else
      gi a1 60 <|
      if 57 < (σ 205 a1.toNatClampNeg) then
        some 0
      else
        some 1
def f_X2_readNumber (σ : gM) (a1 : Int32) : Option (Int32 × gM) :=
  gi (σ 204 4) 60 <|
  nm ((σ 205 (σ 204 4).toNatClampNeg) - 48) fun x2 =>
  nm (mset σ 204 4 ((σ 204 4) + 1)) fun σ3 =>
  if a1 = 0 then
    some (x2, σ3)
  else
    bd (f_X2_isDigit σ3 (σ3 204 4)) fun r6 =>
    if r6 = 0 then
      some (x2, σ3)
    else
      gi (σ3 204 4) 60 <|
      nm (((x2 * 10) + (σ3 205 (σ3 204 4).toNatClampNeg)) - 48) fun x9 =>
      nm (mset σ3 204 4 ((σ3 204 4) + 1)) fun σ10 =>
      some (x9, σ10)
def f_X1_setNumber (σ : gM) (kc : Nat) (a1 : Int32) (a2 : Int32) : Option (gM) :=
  if a1 = 0 then
    nm (mset σ (207 + kc) 1 a2) fun σ5 =>
    some σ5
  else
    if a1 = 1 then
      nm (mset σ (207 + kc) 2 a2) fun σ4 =>
      some σ4
    else
      nm (mset σ (207 + kc) 3 a2) fun σ3 =>
      some σ3
def f_X2_fits_L26 (kf : Nat) (kc : Nat) : Nat → Int32 → Int32 → gM → Option ((gM) ⊕ ((gM) ⊕ (gM)))
  | 0, _, _, _ => none
  | n + 1, v4, v5, σ =>
    if (nI (gLen.getD kf 0)) ≤ v5 then
      some (.inr (.inr σ))
    else
      gi v5 (gLen.getD kf 0) <|
      nm ((gByt.getD kf []).getD v5.toNatClampNeg 0) fun x5 =>
      if x5 = 35 then
        bd (f_X2_isDigit σ (σ 204 4)) fun r8 =>
        if r8 = 0 then
          some (.inl σ)
        else
          if x5 = 37 then
            bd2 (f_X2_readNumber σ 1) fun r19 σ20 =>
            bd (f_X1_setNumber σ20 kc v4 r19) fun σ22 =>
            nm (v4 + 1) fun x23 =>
            nm (v5 + 1) fun x24 =>
            f_X2_fits_L26 kf kc n x23 x24 σ22
          else
            bd2 (f_X2_readNumber σ 0) fun r12 σ13 =>
            bd (f_X1_setNumber σ13 kc v4 r12) fun σ15 =>
            nm (v4 + 1) fun x16 =>
            nm (v5 + 1) fun x17 =>
            f_X2_fits_L26 kf kc n x16 x17 σ15
      else
        if x5 = 37 then
          bd (f_X2_isDigit σ (σ 204 4)) fun r32 =>
          if r32 = 0 then
            some (.inl σ)
          else
            if x5 = 37 then
              bd2 (f_X2_readNumber σ 1) fun r43 σ44 =>
              bd (f_X1_setNumber σ44 kc v4 r43) fun σ46 =>
              nm (v4 + 1) fun x47 =>
              nm (v5 + 1) fun x48 =>
              f_X2_fits_L26 kf kc n x47 x48 σ46
            else
              bd2 (f_X2_readNumber σ 0) fun r36 σ37 =>
              bd (f_X1_setNumber σ37 kc v4 r36) fun σ39 =>
              nm (v4 + 1) fun x40 =>
              nm (v5 + 1) fun x41 =>
              f_X2_fits_L26 kf kc n x40 x41 σ39
        else
          if (σ 204 2) ≤ (σ 204 4) then
            some (.inr (.inl σ))
          else
            gi (σ 204 4) 60 <|
            if (σ 205 (σ 204 4).toNatClampNeg) = x5 then
              nm (mset σ 204 4 ((σ 204 4) + 1)) fun σ29 =>
              nm (v5 + 1) fun x30 =>
              f_X2_fits_L26 kf kc n v4 x30 σ29
            else
              some (.inr (.inl σ))
def f_X2_fits (σ : gM) (kf : Nat) (kc : Nat) (a3 : Int32) : Option (Int32 × gM) :=
  nm (mset σ 204 4 a3) fun σ1 =>
  nm (mset σ1 (207 + kc) 0 (nI (kf + 1))) fun σ2 =>
  gs3 (f_X2_fits_L26 kf kc gFU 0 0 σ2)
    (fun σ50 =>
      some (0, σ50))
    (fun σ51 =>
      some (0, σ51))
    (fun σ52 =>
      some (1, σ52))
def f_X2_readCommand_L5 (kc : Nat) (p2 : Int32) : Nat → Int32 → Int32 → gM → Option ((gM) ⊕ (Int32 × gM))
  | 0, _, _, _ => none
  | n + 1, v3, v4, σ =>
    if 7 ≤ v4 then
      some (.inr (v3, σ))
    else
      gi v4 7 <|
      bd2 (f_X2_fits σ v4.toNatClampNeg kc p2) fun r4 σ5 =>
      if r4 = 0 then
        nm (if v3 < (σ5 204 4) then (σ5 204 4) else v3) fun x7 =>
        nm (v4 + 1) fun x8 =>
        f_X2_readCommand_L5 kc p2 n x7 x8 σ5
      else
        some (.inl σ5)
def f_X2_readCommand (σ : gM) (kc : Nat) (a2 : Int32) : Option (Int32 × gM) :=
  gs2 (f_X2_readCommand_L5 kc a2 gFU a2 0 σ)
    (fun σ10 =>
      some (1, σ10))
    (un2 fun y11 σ12 =>
      nm (mset σ12 204 4 y11) fun σ13 =>
      some (0, σ13))
def f_X2_read_L9  : Nat → Int32 → Int32 → gM → Option ((gM) ⊕ ((gM) ⊕ ((gM) ⊕ (Int32 × gM))))
  | 0, _, _, _ => none
  | n + 1, v1, v2, σ =>
    if 10 ≤ v2 then
      some (.inr (.inr (.inr (v1, σ))))
    else
      gi v2 10 <|
      bd2 (f_X2_readCommand σ v2.toNatClampNeg v1) fun r5 σ6 =>
      if r5 = 0 then
        some (.inl σ6)
      else
        nm (mset σ6 204 3 ((σ6 204 3) + 1)) fun σ8 =>
        if (σ8 204 4) < (σ8 204 2) then
          gi (σ8 204 4) 60 <|
          if (σ8 205 (σ8 204 4).toNatClampNeg) = 59 then
            nm ((σ8 204 4) + 1) fun x12 =>
            nm (v2 + 1) fun x13 =>
            f_X2_read_L9 n x12 x13 σ8
          else
            some (.inr (.inr (.inl σ8)))
        else
          some (.inr (.inl σ8))
def f_X2_read (σ : gM) : Option (Int32 × gM) :=
  nm (mset σ 204 3 0) fun σ1 =>
  gs4 (f_X2_read_L9 gFU 0 0 σ1)
    (fun σ15 =>
      some (σ15 204 4, σ15))
    (fun σ16 =>
      some ((-1), σ16))
    (fun σ17 =>
      some (σ17 204 4, σ17))
    (un2 fun y18 σ19 =>
      some (y18, σ19))
def f_X2_clear (σ : gM) : Option (gM) :=
  nm (mset σ 204 2 0) fun σ1 =>
  some σ1
def f_X2_commandCount (σ : gM) : Option (Int32) :=
  some (σ 204 3)
def f_X2_command (σ : gM) (a1 : Int32) : Option (Option Nat) :=
  bd (f_X12_isIndex σ a1 10) fun r2 =>
  if r2 = 0 then
    some none
  else
    gi a1 10 <|
    some (some a1.toNatClampNeg)
def f_X12_carryOut (σ : gM) (kc : Nat) : Option (Int32 × gM) :=
  if σ (207 + kc) 0 = 0 then
    some ((-5), σ)
  else
    gi ((σ (207 + kc) 0) - 1) 7 <|
    if (σ (207 + kc) 0) = 1 then
      bd2 (f_X3_joinPlaces σ (σ (207 + kc) 1) (σ (207 + kc) 2) (σ (207 + kc) 3)) fun r5 σ6 =>
      some (r5, σ6)
    else
      if (σ (207 + kc) 0) = 2 then
        bd2 (f_X3_addParcel σ (σ (207 + kc) 1) (σ (207 + kc) 2) (σ (207 + kc) 3)) fun r9 σ10 =>
        some (r9, σ10)
      else
        if (σ (207 + kc) 0) = 3 then
          bd2 (f_X3_addGlove σ (σ (207 + kc) 1)) fun r13 σ14 =>
          some (r13, σ14)
        else
          if (σ (207 + kc) 0) = 4 then
            bd2 (f_X3_putIn σ (σ (207 + kc) 1) (σ (207 + kc) 2)) fun r17 σ18 =>
            some (r17, σ18)
          else
            if (σ (207 + kc) 0) = 5 then
              bd2 (f_X3_pullOut σ (σ (207 + kc) 1)) fun r21 σ22 =>
              some (r21, σ22)
            else
              if (σ (207 + kc) 0) = 6 then
                bd2 (f_X3_bring σ (σ (207 + kc) 1) (σ (207 + kc) 2)) fun r25 σ26 =>
                some (r25, σ26)
              else
                if (σ (207 + kc) 0) = 7 then
                  bd2 (f_X3_takeBack σ (σ (207 + kc) 1)) fun r29 σ30 =>
                  some (r29, σ30)
                else
                  some ((-5), σ)
def f_X12_carryOutCommands_L2  : Nat → Int32 → gM → Option ((Int32 × gM) ⊕ (gM))
  | 0, _, _ => none
  | n + 1, v1, σ =>
    bd (f_X2_commandCount σ) fun r2 =>
    if r2 ≤ v1 then
      some (.inr σ)
    else
      bd (f_X2_command σ v1) fun r5 =>
      gk r5 fun kc6 =>
      bd2 (f_X12_carryOut σ kc6) fun r8 σ9 =>
      if 0 ≤ r8 then
        nm (v1 + 1) fun x11 =>
        f_X12_carryOutCommands_L2 n x11 σ9
      else
        some (.inl (v1, σ9))
def f_X12_carryOutCommands (σ : gM) : Option (Int32 × gM) :=
  gs2 (f_X12_carryOutCommands_L2 gFU 0 σ)
    (un2 fun y13 σ14 =>
      some (y13, σ14))
    (fun σ15 =>
      some ((-1), σ15))
def f_X7_putBack (σ : gM) : Option (gM) :=
  gi (σ 199 1) 9 <|
  bd (f_X3_copyFrom σ 0 ((σ 199 1).toNatClampNeg + 2)) fun σ3 =>
  some σ3
def f_X12_runCommands (σ : gM) : Option ((Int32 × gM) ⊕ (Nat × gM)) :=
  bd2 (f_X2_read σ) fun r2 σ3 =>
  bd (f_X2_clear σ3) fun σ5 =>
  if r2 = (-1) then
    bd (f_X7_prepare σ5) fun σ8 =>
    bd2 (f_X12_carryOutCommands σ8) fun r10 σ11 =>
    if r10 = (-1) then
      bd (f_X2_commandCount σ11) fun r14 =>
      bt2 (f_X12_recorded σ11 r14)
        (fun r16 σ17 =>
          some (.inl (r16, σ17)))
        (fun n18 σ17 => some (.inr (n18, σ17)))
    else
      bd (f_X7_putBack σ11) fun σ20 =>
      nm (mset σ20 0 8 r10) fun σ21 =>
      some (.inr (3, σ21))
  else
    nm (mset σ5 0 7 r2) fun σ22 =>
    some (.inr (1, σ22))
def f_X12_errorPosition (σ : gM) : Option ((Int32) ⊕ (Nat)) :=
  bt (f_X12_present σ (σ 0 7))
    (fun r2 =>
      some (.inl r2))
    (fun n3 => some (.inr n3))
def f_X12_failedCommand (σ : gM) : Option ((Int32) ⊕ (Nat)) :=
  bt (f_X12_present σ (σ 0 8))
    (fun r2 =>
      some (.inl r2))
    (fun n3 => some (.inr n3))
def f_X10_add (σ : gM) (a1 : Int32) : Option (gM) :=
  if 100 ≤ (σ 217 1) then
    some σ
  else
    gi (σ 217 1) 100 <|
    nm (mset σ 218 ((σ 217 1).toNatClampNeg) (vp_nar .char a1)) fun σ3 =>
    nm (mset σ3 217 1 ((σ3 217 1) + 1)) fun σ4 =>
    some σ4
def f_X10_addNumber (σ : gM) (a1 : Int32) : Option (gM) :=
  if a1 < 10 then
    bd (f_X10_add σ (((48 + (a1 - a1 / 10 * 10)).toUInt32 % 65536).toInt32)) fun σ3 =>
    some σ3
  else
    bd (f_X10_add σ (((48 + (a1 / 10)).toUInt32 % 65536).toInt32)) fun σ5 =>
    bd (f_X10_add σ5 (((48 + (a1 - a1 / 10 * 10)).toUInt32 % 65536).toInt32)) fun σ7 =>
    some σ7
def f_X10_addParcel_L17 (p2 : Int32) : Nat → Int32 → gM → Option (gM)
  | 0, _, _ => none
  | n + 1, v3, σ =>
    bd (f_X8_hazardOf σ p2) fun r8 =>
    if r8 ≤ v3 then
      some σ
    else
      bd (f_X10_add σ 104) fun σ11 =>
      nm (v3 + 1) fun x12 =>
      f_X10_addParcel_L17 p2 n x12 σ11
def f_X10_addParcel (σ : gM) (a2 : Int32) : Option (gM) :=
  bd (f_X10_add σ 32) fun σ2 =>
  bd (f_X8_weightOf σ2 a2) fun r4 =>
  bd (f_X10_addNumber σ2 r4) fun σ6 =>
  bd (f_X10_addParcel_L17 a2 gFU 0 σ6) fun σ14 =>
  bd (f_X10_add σ14 62) fun σ16 =>
  bd (f_X8_destinationOf σ16 a2) fun r18 =>
  bd (f_X10_addNumber σ16 r18) fun σ20 =>
  some σ20
def f_X10_describe_L36 (p2 : Int32) : Nat → Int32 → gM → Option (gM)
  | 0, _, _ => none
  | n + 1, v3, σ =>
    bd (f_X8_size σ) fun r13 =>
    if r13 ≤ v3 then
      some σ
    else
      bd (f_X8_whereIs σ v3) fun r16 =>
      if r16 = p2 then
        bd (f_X10_addParcel σ v3) fun σ20 =>
        nm (v3 + 1) fun x21 =>
        f_X10_describe_L36 p2 n x21 σ20
      else
        nm (v3 + 1) fun x18 =>
        f_X10_describe_L36 p2 n x18 σ
def f_X10_describe (σ : gM) (a2 : Int32) : Option (Int32 × gM) :=
  nm (mset σ 217 1 0) fun σ1 =>
  bd (f_X10_add σ1 115) fun σ3 =>
  bd (f_X10_addNumber σ3 a2) fun σ5 =>
  bd (f_X10_add σ5 64) fun σ7 =>
  bd (f_X11_placeOf σ7 a2) fun r9 =>
  bd (f_X10_addNumber σ7 r9) fun σ11 =>
  bd (f_X10_describe_L36 a2 gFU 0 σ11) fun σ23 =>
  some (σ23 217 1, σ23)
def f_X12_writeSack (σ : gM) (a1 : Int32) : Option ((Int32 × gM) ⊕ (Nat × gM)) :=
  bt (f_X12_requireIndex σ a1 3)
    (fun u =>
      bd2 (f_X10_describe σ a1) fun r4 σ5 =>
      some (.inl (r4, σ5)))
    (fun n2 => some (.inr (n2, σ)))
def f_X10_size (σ : gM) : Option (Int32) :=
  some (σ 217 1)
def f_X10_at (σ : gM) (a1 : Int32) : Option (Int32) :=
  gi a1 100 <|
  gn .char (σ 218 a1.toNatClampNeg) <|
  some (σ 218 a1.toNatClampNeg)
def f_X12_outputChar (σ : gM) (a1 : Int32) : Option ((Int32) ⊕ (Nat)) :=
  bd (f_X10_size σ) fun r2 =>
  bt (f_X12_requireIndex σ a1 r2)
    (fun u =>
      bd (f_X10_at σ a1) fun r6 =>
      gn .char r6 <|
      some (.inl r6))
    (fun n4 => some (.inr n4))
def f_X7_size (σ : gM) : Option (Int32) :=
  some (σ 199 2)
def f_X12_undoCount (σ : gM) : Option (Int32) :=
  bd (f_X7_size σ) fun r2 =>
  some r2
def f_X7_goBack (σ : gM) : Option (Int32 × gM) :=
  nm (mset σ 199 1 ((((σ 199 1) + 9) - 1) - (((σ 199 1) + 9) - 1) / 9 * 9)) fun σ1 =>
  nm (mset σ1 199 2 ((σ1 199 2) - 1)) fun σ2 =>
  bd (f_X7_putBack σ2) fun σ4 =>
  some (σ4 199 2, σ4)
def f_X12_undo (σ : gM) : Option ((Int32 × gM) ⊕ (Nat × gM)) :=
  bd (f_X7_size σ) fun r2 =>
  if r2 = 0 then
    bt (f_X12_accepted σ (-4))
      (fun r11 =>
        some (.inl (r11, σ)))
      (fun n12 => some (.inr (n12, σ)))
  else
    bd2 (f_X7_goBack σ) fun r5 σ6 =>
    bt (f_X12_accepted σ6 r5)
      (fun r8 =>
        some (.inl (r8, σ6)))
      (fun n9 => some (.inr (n9, σ6)))
def f_X12_save (σ : gM) : Option (Int32 × gM) :=
  bd (f_X3_copyFrom σ 1 0) fun σ2 =>
  nm (mset σ2 0 6 1) fun σ3 =>
  bd (f_X8_size σ3) fun r5 =>
  some (r5, σ3)
def f_X7_forget (σ : gM) : Option (gM) :=
  nm (mset σ 199 2 0) fun σ1 =>
  some σ1
def f_X12_restore (σ : gM) : Option ((Int32 × gM) ⊕ (Nat × gM)) :=
  if (σ 0 6) = 0 then
    some (.inr (2, σ))
  else
    bd (f_X3_copyFrom σ 0 1) fun σ3 =>
    bd (f_X7_forget σ3) fun σ5 =>
    bd (f_X8_size σ5) fun r7 =>
    some (.inl (r7, σ5))
def f_X13_thrown (σ : gM) : Option (Int32) :=
  some (σ 219 12)
def f_X13_in (σ : gM) (a1 : Int32) (a2 : Int32) (a3 : Int32) : Option (Int32) :=
  if a1 < a2 then
    some 0
  else
    if a3 < a1 then
      some 0
    else
      some 1
def f_X13_done (σ : gM) (a1 : Int32) : Option (Int32 × gM) :=
  nm (mset σ 219 12 0) fun σ1 =>
  some (a1, σ1)
def f_X13_fails (σ : gM) (a1 : Int32) : Option (Int32 × gM) :=
  nm (mset σ 219 12 a1) fun σ1 =>
  some (0, σ1)
def f_X13_copy_L3 (ja : Nat) (na : Nat) (p1 : Int32) (jb : Nat) (nb : Nat) (p3 : Int32) : Nat → Int32 → gM → Option (gM)
  | 0, _, _ => none
  | n + 1, v4, σ =>
    if 134 ≤ v4 then
      some σ
    else
      gi (p1 + v4) na <|
      gi (p3 + v4) nb <|
      nm (mset σ jb ((p3 + v4).toNatClampNeg) (σ ja (p1 + v4).toNatClampNeg)) fun σ4 =>
      nm (v4 + 1) fun x5 =>
      f_X13_copy_L3 ja na p1 jb nb p3 n x5 σ4
def f_X13_copy (σ : gM) (ja : Nat) (na : Nat) (a2 : Int32) (jb : Nat) (nb : Nat) (a4 : Int32) : Option (gM) :=
  bd (f_X13_copy_L3 ja na a2 jb nb a4 gFU 0 σ) fun σ7 =>
  some σ7
def f_X13_begin (σ : gM) : Option (gM) :=
  bd (f_X13_copy σ 220 134 0 221 134 0) fun σ2 =>
  some σ2
def f_X13_kept_L33 (p1 : Int32) : Nat → Int32 → gM → Option (gM)
  | 0, _, _ => none
  | n + 1, v2, σ =>
    if 938 ≤ v2 then
      some σ
    else
      gi (v2 + 134) 1072 <|
      gi v2 1072 <|
      nm (mset σ 222 v2.toNatClampNeg (σ 222 (v2 + 134).toNatClampNeg)) fun σ9 =>
      nm (v2 + 1) fun x10 =>
      f_X13_kept_L33 p1 n x10 σ9
def f_X13_kept (σ : gM) (a1 : Int32) : Option (Int32 × gM) :=
  if (σ 219 12) = 0 then
    if (σ 219 3) = 8 then
      bd (f_X13_kept_L33 a1 gFU 0 σ) fun σ12 =>
      nm (mset σ12 219 3 ((σ12 219 3) - 1)) fun σ13 =>
      bd (f_X13_copy σ13 221 134 0 222 1072 ((σ13 219 3) * 134)) fun σ15 =>
      nm (mset σ15 219 3 ((σ15 219 3) + 1)) fun σ16 =>
      some (a1, σ16)
    else
      bd (f_X13_copy σ 221 134 0 222 1072 ((σ 219 3) * 134)) fun σ4 =>
      nm (mset σ4 219 3 ((σ4 219 3) + 1)) fun σ5 =>
      some (a1, σ5)
  else
    bd (f_X13_copy σ 221 134 0 220 134 0) fun σ18 =>
    some (0, σ18)
def f_X13_isPlace (σ : gM) (a1 : Int32) : Option (Int32) :=
  bd (f_X13_in σ a1 0 5) fun r2 =>
  gn .boolean r2 <|
  some r2
def f_X13_isSack (σ : gM) (a1 : Int32) : Option (Int32) :=
  bd (f_X13_in σ a1 0 2) fun r2 =>
  gn .boolean r2 <|
  some r2
def f_X13_isParcel (σ : gM) (a1 : Int32) : Option (Int32) :=
  bd (f_X13_in σ a1 0 ((σ 220 36) - 1)) fun r2 =>
  gn .boolean r2 <|
  some r2
def f_X13_isGlove (σ : gM) (a1 : Int32) : Option (Int32) :=
  bd (f_X13_in σ a1 0 ((σ 220 37) - 1)) fun r2 =>
  gn .boolean r2 <|
  some r2
def f_X13_road (σ : gM) (a1 : Int32) (a2 : Int32) : Option (Int32) :=
  gi ((0 + (6 * a1)) + a2) 134 <|
  some (σ 220 ((0 + (6 * a1)) + a2).toNatClampNeg)
def f_X13_roads_L12 (p2 : Int32) (σ : gM) : Nat → Int32 → Int32 → Option (Int32)
  | 0, _, _ => none
  | n + 1, v1, v3 =>
    if p2 ≤ v3 then
      some v1
    else
      bd (f_X13_road σ p2 v3) fun r4 =>
      if r4 ≤ 0 then
        nm (v1 + 0) fun x6 =>
        nm (v3 + 1) fun x7 =>
        f_X13_roads_L12 p2 σ n x6 x7
      else
        nm (v1 + 1) fun x8 =>
        nm (v3 + 1) fun x9 =>
        f_X13_roads_L12 p2 σ n x8 x9
def f_X13_roads_L4  (σ : gM) : Nat → Int32 → Int32 → Option (Int32)
  | 0, _, _ => none
  | n + 1, v1, v2 =>
    if 6 ≤ v2 then
      some v1
    else
      bd (f_X13_roads_L12 v2 σ gFU v1 0) fun y11 =>
      nm (v2 + 1) fun x12 =>
      f_X13_roads_L4 σ n y11 x12
def f_X13_roads (σ : gM) : Option (Int32) :=
  bd (f_X13_roads_L4 σ gFU 0 0) fun y14 =>
  some y14
def f_X13_builds (σ : gM) (a1 : Int32) (a2 : Int32) (a3 : Int32) : Option (Int32 × gM) :=
  bd (f_X13_isPlace σ a1) fun r2 =>
  if r2 = 0 then
    bd2 (f_X13_fails σ 1) fun r5 σ6 =>
    some (r5, σ6)
  else
    bd (f_X13_isPlace σ a2) fun r8 =>
    if r8 = 0 then
      bd2 (f_X13_fails σ 1) fun r36 σ37 =>
      some (r36, σ37)
    else
      if a1 = a2 then
        bd2 (f_X13_fails σ 2) fun r12 σ13 =>
        some (r12, σ13)
      else
        bd (f_X13_in σ a3 1 20) fun r15 =>
        if r15 = 0 then
          bd2 (f_X13_fails σ 2) fun r33 σ34 =>
          some (r33, σ34)
        else
          bd (f_X13_road σ a1 a2) fun r18 =>
          if r18 ≤ 0 then
            gi ((0 + (6 * a1)) + a2) 134 <|
            nm (mset σ 220 (((0 + (6 * a1)) + a2).toNatClampNeg) a3) fun σ21 =>
            gi ((0 + (6 * a2)) + a1) 134 <|
            nm (mset σ21 220 (((0 + (6 * a2)) + a1).toNatClampNeg) a3) fun σ23 =>
            bd (f_X13_roads σ23) fun r25 =>
            bd2 (f_X13_done σ23 r25) fun r27 σ28 =>
            some (r27, σ28)
          else
            bd2 (f_X13_fails σ 3) fun r30 σ31 =>
            some (r30, σ31)
def f_X13_buildRoad (σ : gM) (a1 : Int32) (a2 : Int32) (a3 : Int32) : Option (Int32 × gM) :=
  bd (f_X13_begin σ) fun σ2 =>
  bd2 (f_X13_builds σ2 a1 a2 a3) fun r4 σ5 =>
  bd2 (f_X13_kept σ5 r4) fun r7 σ8 =>
  some (r7, σ8)
def f_X13_explores_L2 (p1 : Int32) : Nat → Int32 → gM → Option (gM)
  | 0, _, _ => none
  | n + 1, v2, σ =>
    if 6 ≤ v2 then
      some σ
    else
      if v2 = p1 then
        gi v2 6 <|
        nm (mset σ 226 v2.toNatClampNeg 0) fun σ7 =>
        nm (v2 + 1) fun x8 =>
        f_X13_explores_L2 p1 n x8 σ7
      else
        gi v2 6 <|
        nm (mset σ 226 v2.toNatClampNeg 1000) fun σ4 =>
        nm (v2 + 1) fun x5 =>
        f_X13_explores_L2 p1 n x5 σ4
def f_X13_explores_L51 (p2 : Int32) (p3 : Int32) : Nat → Int32 → gM → Option (gM)
  | 0, _, _ => none
  | n + 1, v4, σ =>
    if 6 ≤ v4 then
      some σ
    else
      gi p3 6 <|
      bd (f_X13_road σ p3 v4) fun r16 =>
      nm ((σ 226 p3.toNatClampNeg) + r16) fun x17 =>
      bd (f_X13_road σ p3 v4) fun r19 =>
      if r19 ≤ 0 then
        gi v4 6 <|
        gi v4 6 <|
        nm (mset σ 226 v4.toNatClampNeg (σ 226 v4.toNatClampNeg)) fun σ24 =>
        nm (v4 + 1) fun x25 =>
        f_X13_explores_L51 p2 p3 n x25 σ24
      else
        gi v4 6 <|
        if (σ 226 v4.toNatClampNeg) ≤ x17 then
          gi v4 6 <|
          gi v4 6 <|
          nm (mset σ 226 v4.toNatClampNeg (σ 226 v4.toNatClampNeg)) fun σ31 =>
          nm (v4 + 1) fun x32 =>
          f_X13_explores_L51 p2 p3 n x32 σ31
        else
          gi v4 6 <|
          nm (mset σ 226 v4.toNatClampNeg x17) fun σ35 =>
          nm (v4 + 1) fun x36 =>
          f_X13_explores_L51 p2 p3 n x36 σ35
def f_X13_explores_L42 (p2 : Int32) : Nat → Int32 → gM → Option (gM)
  | 0, _, _ => none
  | n + 1, v3, σ =>
    if 6 ≤ v3 then
      some σ
    else
      bd (f_X13_explores_L51 p2 v3 gFU 0 σ) fun σ38 =>
      nm (v3 + 1) fun x39 =>
      f_X13_explores_L42 p2 n x39 σ38
def f_X13_explores_L34  : Nat → Int32 → gM → Option (gM)
  | 0, _, _ => none
  | n + 1, v2, σ =>
    if 6 ≤ v2 then
      some σ
    else
      bd (f_X13_explores_L42 v2 gFU 0 σ) fun σ41 =>
      nm (v2 + 1) fun x42 =>
      f_X13_explores_L34 n x42 σ41
def f_X13_explores (σ : gM) (a1 : Int32) : Option (gM) :=
  bd (f_X13_explores_L2 a1 gFU 0 σ) fun σ10 =>
  bd (f_X13_explores_L34 gFU 0 σ10) fun σ44 =>
  some σ44
def f_X13_distanceOf (σ : gM) (a1 : Int32) (a2 : Int32) : Option (Int32 × gM) :=
  bd (f_X13_explores σ a1) fun σ2 =>
  gi a2 6 <|
  some (σ2 226 a2.toNatClampNeg, σ2)
def f_X13_accepts (σ : gM) (a1 : Int32) (a2 : Int32) (a3 : Int32) : Option (Int32 × gM) :=
  bd (f_X13_isPlace σ a3) fun r2 =>
  if r2 = 0 then
    bd2 (f_X13_fails σ 1) fun r32 σ33 =>
    some (r32, σ33)
  else
    bd (f_X13_in σ a1 1 20) fun r5 =>
    if r5 = 0 then
      bd2 (f_X13_fails σ 2) fun r8 σ9 =>
      some (r8, σ9)
    else
      bd (f_X13_in σ a2 0 3) fun r11 =>
      if r11 = 0 then
        bd2 (f_X13_fails σ 2) fun r29 σ30 =>
        some (r29, σ30)
      else
        nm (σ 220 36) fun x13 =>
        if x13 = 12 then
          bd2 (f_X13_fails σ 3) fun r26 σ27 =>
          some (r26, σ27)
        else
          gi (40 + x13) 134 <|
          nm (mset σ 220 ((40 + x13).toNatClampNeg) a1) fun σ16 =>
          gi (52 + x13) 134 <|
          nm (mset σ16 220 ((52 + x13).toNatClampNeg) a2) fun σ18 =>
          gi (64 + x13) 134 <|
          nm (mset σ18 220 ((64 + x13).toNatClampNeg) a3) fun σ20 =>
          nm (mset σ20 220 36 ((σ20 220 36) + 1)) fun σ21 =>
          bd2 (f_X13_done σ21 x13) fun r23 σ24 =>
          some (r23, σ24)
def f_X13_acceptParcel (σ : gM) (a1 : Int32) (a2 : Int32) (a3 : Int32) : Option (Int32 × gM) :=
  bd (f_X13_begin σ) fun σ2 =>
  bd2 (f_X13_accepts σ2 a1 a2 a3) fun r4 σ5 =>
  bd2 (f_X13_kept σ5 r4) fun r7 σ8 =>
  some (r7, σ8)
def f_X13_buys (σ : gM) (a1 : Int32) : Option (Int32 × gM) :=
  bd (f_X13_in σ a1 1 3) fun r2 =>
  if r2 = 0 then
    bd2 (f_X13_fails σ 1) fun r18 σ19 =>
    some (r18, σ19)
  else
    nm (σ 220 37) fun x4 =>
    if x4 = 8 then
      bd2 (f_X13_fails σ 2) fun r15 σ16 =>
      some (r15, σ16)
    else
      gi (112 + x4) 134 <|
      nm (mset σ 220 ((112 + x4).toNatClampNeg) a1) fun σ7 =>
      gi (120 + x4) 134 <|
      nm (mset σ7 220 ((120 + x4).toNatClampNeg) 0) fun σ9 =>
      nm (mset σ9 220 37 ((σ9 220 37) + 1)) fun σ10 =>
      bd2 (f_X13_done σ10 x4) fun r12 σ13 =>
      some (r12, σ13)
def f_X13_buyGlove (σ : gM) (a1 : Int32) : Option (Int32 × gM) :=
  bd (f_X13_begin σ) fun σ2 =>
  bd2 (f_X13_buys σ2 a1) fun r4 σ5 =>
  bd2 (f_X13_kept σ5 r4) fun r7 σ8 =>
  some (r7, σ8)
def f_X13_loadOf_L4 (p1 : Int32) (σ : gM) : Nat → Int32 → Int32 → Option (Int32)
  | 0, _, _ => none
  | n + 1, v2, v3 =>
    if (σ 220 36) ≤ v3 then
      some v2
    else
      gi (76 + v3) 134 <|
      if (σ 220 (76 + v3).toNatClampNeg) = 1 then
        gi (88 + v3) 134 <|
        if (σ 220 (88 + v3).toNatClampNeg) = p1 then
          gi (40 + v3) 134 <|
          nm (v2 + (σ 220 (40 + v3).toNatClampNeg)) fun x11 =>
          nm (v3 + 1) fun x12 =>
          f_X13_loadOf_L4 p1 σ n x11 x12
        else
          nm (v2 + 0) fun x8 =>
          nm (v3 + 1) fun x9 =>
          f_X13_loadOf_L4 p1 σ n x8 x9
      else
        nm (v2 + 0) fun x4 =>
        nm (v3 + 1) fun x5 =>
        f_X13_loadOf_L4 p1 σ n x4 x5
def f_X13_loadOf (σ : gM) (a1 : Int32) : Option (Int32) :=
  bd (f_X13_loadOf_L4 a1 σ gFU 0 0) fun y14 =>
  some y14
def f_X13_limits (σ : gM) (a1 : Int32) (a2 : Int32) : Option (Int32 × gM) :=
  bd (f_X13_isSack σ a1) fun r2 =>
  if r2 = 0 then
    bd2 (f_X13_fails σ 1) fun r24 σ25 =>
    some (r24, σ25)
  else
    bd (f_X13_in σ a2 1 60) fun r5 =>
    if r5 = 0 then
      bd2 (f_X13_fails σ 2) fun r21 σ22 =>
      some (r21, σ22)
    else
      bd (f_X13_loadOf σ a1) fun r8 =>
      if r8 ≤ a2 then
        gi (131 + a1) 134 <|
        nm (σ 220 (131 + a1).toNatClampNeg) fun x11 =>
        gi (131 + a1) 134 <|
        nm (mset σ 220 ((131 + a1).toNatClampNeg) a2) fun σ13 =>
        bd2 (f_X13_done σ13 x11) fun r15 σ16 =>
        some (r15, σ16)
      else
        bd2 (f_X13_fails σ 3) fun r18 σ19 =>
        some (r18, σ19)
def f_X13_setCapacity (σ : gM) (a1 : Int32) (a2 : Int32) : Option (Int32 × gM) :=
  bd (f_X13_begin σ) fun σ2 =>
  bd2 (f_X13_limits σ2 a1 a2) fun r4 σ5 =>
  bd2 (f_X13_kept σ5 r4) fun r7 σ8 =>
  some (r7, σ8)
def f_X13_isBetter (σ : gM) (a1 : Int32) (a2 : Int32) : Option (Int32) :=
  gi (112 + a2) 134 <|
  gi (112 + a1) 134 <|
  nm ((σ 220 (112 + a2).toNatClampNeg) - (σ 220 (112 + a1).toNatClampNeg)) fun x3 =>
  if 0 < x3 then
    some 1
  else
    if x3 = 0 then
      gi (120 + a1) 134 <|
      gi (120 + a2) 134 <|
      if (σ 220 (120 + a1).toNatClampNeg) ≤ (σ 220 (120 + a2).toNatClampNeg) then
        some 0
      else
        some 1
    else
      some 0
def f_X13_gloveOf_L4 (p1 : Int32) (σ : gM) : Nat → Int32 → Int32 → Option (Int32)
  | 0, _, _ => none
  | n + 1, v2, v3 =>
    if (σ 220 37) ≤ v3 then
      some v2
    else
      gi (112 + v3) 134 <|
      if (σ 220 (112 + v3).toNatClampNeg) < p1 then
        nm (v3 + 1) fun x4 =>
        f_X13_gloveOf_L4 p1 σ n v2 x4
      else
        if v2 = (-1) then
          nm (v3 + 1) fun x6 =>
          f_X13_gloveOf_L4 p1 σ n v3 x6
        else
          bd (f_X13_isBetter σ v3 v2) fun r8 =>
          if r8 = 0 then
            nm (v3 + 1) fun x10 =>
            f_X13_gloveOf_L4 p1 σ n v2 x10
          else
            nm (v3 + 1) fun x11 =>
            f_X13_gloveOf_L4 p1 σ n v3 x11
def f_X13_gloveOf (σ : gM) (a1 : Int32) : Option (Int32) :=
  bd (f_X13_gloveOf_L4 a1 σ gFU (-1) 0) fun y13 =>
  some y13
def f_X13_isHandled (σ : gM) (a1 : Int32) : Option (Int32) :=
  gi (52 + a1) 134 <|
  if (σ 220 (52 + a1).toNatClampNeg) = 0 then
    some 1
  else
    gi (52 + a1) 134 <|
    bd (f_X13_gloveOf σ (σ 220 (52 + a1).toNatClampNeg)) fun r5 =>
    if r5 = (-1) then
      some 0
    else
      some 1
def f_X13_handles_L55  : Nat → Int32 → gM → Option (gM)
  | 0, _, _ => none
  | n + 1, v3, σ =>
    if 7 ≤ v3 then
      some σ
    else
      gi ((112 + v3) + 1) 134 <|
      gi (112 + v3) 134 <|
      nm (mset σ 220 ((112 + v3).toNatClampNeg) (σ 220 ((112 + v3) + 1).toNatClampNeg)) fun σ14 =>
      gi ((120 + v3) + 1) 134 <|
      gi (120 + v3) 134 <|
      nm (mset σ14 220 ((120 + v3).toNatClampNeg) (σ14 220 ((120 + v3) + 1).toNatClampNeg)) fun σ17 =>
      nm (v3 + 1) fun x18 =>
      f_X13_handles_L55 n x18 σ17
def f_X13_handles (σ : gM) (a1 : Int32) : Option (gM) :=
  gi (52 + a1) 134 <|
  if (σ 220 (52 + a1).toNatClampNeg) = 0 then
    some σ
  else
    gi (52 + a1) 134 <|
    bd (f_X13_gloveOf σ (σ 220 (52 + a1).toNatClampNeg)) fun r5 =>
    gi (120 + r5) 134 <|
    gi (120 + r5) 134 <|
    nm (mset σ 220 ((120 + r5).toNatClampNeg) ((σ 220 (120 + r5).toNatClampNeg) + 1)) fun σ8 =>
    gi (120 + r5) 134 <|
    if (σ8 220 (120 + r5).toNatClampNeg) = 3 then
      bd (f_X13_handles_L55 gFU r5 σ8) fun σ20 =>
      nm (mset σ20 220 37 ((σ20 220 37) - 1)) fun σ21 =>
      nm (mset σ21 220 39 ((σ21 220 39) + 1)) fun σ22 =>
      some σ22
    else
      some σ8
def f_X13_puts (σ : gM) (a1 : Int32) (a2 : Int32) : Option (Int32 × gM) :=
  bd (f_X13_isParcel σ a1) fun r2 =>
  if r2 = 0 then
    bd2 (f_X13_fails σ 1) fun r5 σ6 =>
    some (r5, σ6)
  else
    bd (f_X13_isSack σ a2) fun r8 =>
    if r8 = 0 then
      bd2 (f_X13_fails σ 1) fun r40 σ41 =>
      some (r40, σ41)
    else
      gi (76 + a1) 134 <|
      if (σ 220 (76 + a1).toNatClampNeg) = 0 then
        bd (f_X13_loadOf σ a2) fun r13 =>
        gi (40 + a1) 134 <|
        nm (r13 + (σ 220 (40 + a1).toNatClampNeg)) fun x15 =>
        gi (131 + a2) 134 <|
        if x15 ≤ (σ 220 (131 + a2).toNatClampNeg) then
          bd (f_X13_isHandled σ a1) fun r19 =>
          if r19 = 0 then
            bd2 (f_X13_fails σ 4) fun r31 σ32 =>
            some (r31, σ32)
          else
            bd (f_X13_handles σ a1) fun σ22 =>
            gi (76 + a1) 134 <|
            nm (mset σ22 220 ((76 + a1).toNatClampNeg) 1) fun σ24 =>
            gi (88 + a1) 134 <|
            nm (mset σ24 220 ((88 + a1).toNatClampNeg) a2) fun σ26 =>
            bd2 (f_X13_done σ26 x15) fun r28 σ29 =>
            some (r28, σ29)
        else
          bd2 (f_X13_fails σ 3) fun r34 σ35 =>
          some (r34, σ35)
      else
        bd2 (f_X13_fails σ 2) fun r37 σ38 =>
        some (r37, σ38)
def f_X13_put (σ : gM) (a1 : Int32) (a2 : Int32) : Option (Int32 × gM) :=
  bd (f_X13_begin σ) fun σ2 =>
  bd2 (f_X13_puts σ2 a1 a2) fun r4 σ5 =>
  bd2 (f_X13_kept σ5 r4) fun r7 σ8 =>
  some (r7, σ8)
def f_X13_takes (σ : gM) (a1 : Int32) : Option (Int32 × gM) :=
  bd (f_X13_isParcel σ a1) fun r2 =>
  if r2 = 0 then
    bd2 (f_X13_fails σ 1) fun r24 σ25 =>
    some (r24, σ25)
  else
    gi (76 + a1) 134 <|
    if (σ 220 (76 + a1).toNatClampNeg) = 1 then
      bd (f_X13_isHandled σ a1) fun r7 =>
      if r7 = 0 then
        bd2 (f_X13_fails σ 3) fun r18 σ19 =>
        some (r18, σ19)
      else
        bd (f_X13_handles σ a1) fun σ10 =>
        gi (76 + a1) 134 <|
        nm (mset σ10 220 ((76 + a1).toNatClampNeg) 0) fun σ12 =>
        gi (88 + a1) 134 <|
        bd2 (f_X13_done σ12 (σ12 220 (88 + a1).toNatClampNeg)) fun r15 σ16 =>
        some (r15, σ16)
    else
      bd2 (f_X13_fails σ 2) fun r21 σ22 =>
      some (r21, σ22)
def f_X13_takeOut (σ : gM) (a1 : Int32) : Option (Int32 × gM) :=
  bd (f_X13_begin σ) fun σ2 =>
  bd2 (f_X13_takes σ2 a1) fun r4 σ5 =>
  bd2 (f_X13_kept σ5 r4) fun r7 σ8 =>
  some (r7, σ8)
def f_X13_carries_L103 (p1 : Int32) (p2 : Int32) : Nat → Int32 → Int32 → gM → Option (Int32 × gM)
  | 0, _, _, _ => none
  | n + 1, v4, v5, σ =>
    if (σ 220 36) ≤ v5 then
      some (v4, σ)
    else
      gi (76 + v5) 134 <|
      if (σ 220 (76 + v5).toNatClampNeg) = 1 then
        gi (88 + v5) 134 <|
        if (σ 220 (88 + v5).toNatClampNeg) = p1 then
          gi (64 + v5) 134 <|
          if (σ 220 (64 + v5).toNatClampNeg) = p2 then
            gi (76 + v5) 134 <|
            nm (mset σ 220 ((76 + v5).toNatClampNeg) 2) fun σ33 =>
            nm (v4 + 1) fun x34 =>
            nm (v5 + 1) fun x35 =>
            f_X13_carries_L103 p1 p2 n x34 x35 σ33
          else
            nm (v5 + 1) fun x31 =>
            f_X13_carries_L103 p1 p2 n v4 x31 σ
        else
          nm (v5 + 1) fun x28 =>
          f_X13_carries_L103 p1 p2 n v4 x28 σ
      else
        nm (v5 + 1) fun x25 =>
        f_X13_carries_L103 p1 p2 n v4 x25 σ
def f_X13_carries (σ : gM) (a1 : Int32) (a2 : Int32) : Option (Int32 × gM) :=
  bd (f_X13_isSack σ a1) fun r2 =>
  if r2 = 0 then
    bd2 (f_X13_fails σ 1) fun r5 σ6 =>
    some (r5, σ6)
  else
    bd (f_X13_isPlace σ a2) fun r8 =>
    if r8 = 0 then
      bd2 (f_X13_fails σ 1) fun r49 σ50 =>
      some (r49, σ50)
    else
      gi (128 + a1) 134 <|
      if (σ 220 (128 + a1).toNatClampNeg) = a2 then
        bd2 (f_X13_fails σ 2) fun r46 σ47 =>
        some (r46, σ47)
      else
        gi (128 + a1) 134 <|
        bd2 (f_X13_distanceOf σ (σ 220 (128 + a1).toNatClampNeg) a2) fun r14 σ15 =>
        if r14 = 1000 then
          bd2 (f_X13_fails σ15 3) fun r43 σ44 =>
          some (r43, σ44)
        else
          bd (f_X13_loadOf σ15 a1) fun r18 =>
          nm (mset σ15 220 38 ((σ15 220 38) + (r14 * r18))) fun σ19 =>
          gi (128 + a1) 134 <|
          nm (mset σ19 220 ((128 + a1).toNatClampNeg) a2) fun σ21 =>
          bd2 (f_X13_carries_L103 a1 a2 gFU 0 0 σ21) fun y37 σ38 =>
          bd2 (f_X13_done σ38 y37) fun r40 σ41 =>
          some (r40, σ41)
def f_X13_carry (σ : gM) (a1 : Int32) (a2 : Int32) : Option (Int32 × gM) :=
  bd (f_X13_begin σ) fun σ2 =>
  bd2 (f_X13_carries σ2 a1 a2) fun r4 σ5 =>
  bd2 (f_X13_kept σ5 r4) fun r7 σ8 =>
  some (r7, σ8)
def f_X13_comes (σ : gM) (a1 : Int32) : Option (Int32 × gM) :=
  bd (f_X13_isParcel σ a1) fun r2 =>
  if r2 = 0 then
    bd2 (f_X13_fails σ 1) fun r30 σ31 =>
    some (r30, σ31)
  else
    gi (76 + a1) 134 <|
    if (σ 220 (76 + a1).toNatClampNeg) = 2 then
      gi (76 + a1) 134 <|
      nm (mset σ 220 ((76 + a1).toNatClampNeg) 0) fun σ7 =>
      gi (100 + a1) 134 <|
      gi (100 + a1) 134 <|
      nm (mset σ7 220 ((100 + a1).toNatClampNeg) ((σ7 220 (100 + a1).toNatClampNeg) + 1)) fun σ10 =>
      gi (52 + a1) 134 <|
      gi (52 + a1) 134 <|
      if 3 ≤ (σ10 220 (52 + a1).toNatClampNeg) then
        gi (52 + a1) 134 <|
        nm (mset σ10 220 ((52 + a1).toNatClampNeg) ((σ10 220 (52 + a1).toNatClampNeg) + 0)) fun σ15 =>
        gi (52 + a1) 134 <|
        bd2 (f_X13_done σ15 (σ15 220 (52 + a1).toNatClampNeg)) fun r18 σ19 =>
        some (r18, σ19)
      else
        gi (52 + a1) 134 <|
        nm (mset σ10 220 ((52 + a1).toNatClampNeg) ((σ10 220 (52 + a1).toNatClampNeg) + 1)) fun σ21 =>
        gi (52 + a1) 134 <|
        bd2 (f_X13_done σ21 (σ21 220 (52 + a1).toNatClampNeg)) fun r24 σ25 =>
        some (r24, σ25)
    else
      bd2 (f_X13_fails σ 2) fun r27 σ28 =>
      some (r27, σ28)
def f_X13_comeBack (σ : gM) (a1 : Int32) : Option (Int32 × gM) :=
  bd (f_X13_begin σ) fun σ2 =>
  bd2 (f_X13_comes σ2 a1) fun r4 σ5 =>
  bd2 (f_X13_kept σ5 r4) fun r7 σ8 =>
  some (r7, σ8)
def f_X13_roadCount (σ : gM) : Option (Int32 × gM) :=
  bd (f_X13_roads σ) fun r2 =>
  bd2 (f_X13_done σ r2) fun r4 σ5 =>
  some (r4, σ5)
def f_X13_roadLength (σ : gM) (a1 : Int32) (a2 : Int32) : Option (Int32 × gM) :=
  bd (f_X13_isPlace σ a1) fun r2 =>
  if r2 = 0 then
    bd2 (f_X13_fails σ 1) fun r5 σ6 =>
    some (r5, σ6)
  else
    bd (f_X13_isPlace σ a2) fun r8 =>
    if r8 = 0 then
      bd2 (f_X13_fails σ 1) fun r22 σ23 =>
      some (r22, σ23)
    else
      bd (f_X13_road σ a1 a2) fun r11 =>
      if r11 = 0 then
        bd2 (f_X13_fails σ 2) fun r19 σ20 =>
        some (r19, σ20)
      else
        bd (f_X13_road σ a1 a2) fun r14 =>
        bd2 (f_X13_done σ r14) fun r16 σ17 =>
        some (r16, σ17)
def f_X13_distance (σ : gM) (a1 : Int32) (a2 : Int32) : Option (Int32 × gM) :=
  bd (f_X13_isPlace σ a1) fun r2 =>
  if r2 = 0 then
    bd2 (f_X13_fails σ 1) fun r5 σ6 =>
    some (r5, σ6)
  else
    bd (f_X13_isPlace σ a2) fun r8 =>
    if r8 = 0 then
      bd2 (f_X13_fails σ 1) fun r21 σ22 =>
      some (r21, σ22)
    else
      bd2 (f_X13_distanceOf σ a1 a2) fun r11 σ12 =>
      if r11 = 1000 then
        bd2 (f_X13_fails σ12 2) fun r18 σ19 =>
        some (r18, σ19)
      else
        bd2 (f_X13_done σ12 r11) fun r15 σ16 =>
        some (r15, σ16)
def f_X13_distanceByRounds (σ : gM) (a1 : Int32) (a2 : Int32) : Option (Int32 × gM) :=
  bd2 (f_X13_distance σ a1 a2) fun r2 σ3 =>
  some (r2, σ3)
def f_X13_farthestPlace_L22  (σ : gM) : Nat → Int32 → Int32 → Option (Int32)
  | 0, _, _ => none
  | n + 1, v2, v3 =>
    if 6 ≤ v3 then
      some v2
    else
      gi v3 6 <|
      if 1000 ≤ (σ 226 v3.toNatClampNeg) then
        nm (v3 + 1) fun x10 =>
        f_X13_farthestPlace_L22 σ n v2 x10
      else
        gi v3 6 <|
        gi v2 6 <|
        if (σ 226 v3.toNatClampNeg) ≤ (σ 226 v2.toNatClampNeg) then
          nm (v3 + 1) fun x15 =>
          f_X13_farthestPlace_L22 σ n v2 x15
        else
          nm (v3 + 1) fun x17 =>
          f_X13_farthestPlace_L22 σ n v3 x17
def f_X13_farthestPlace (σ : gM) (a1 : Int32) : Option (Int32 × gM) :=
  bd (f_X13_isPlace σ a1) fun r2 =>
  if r2 = 0 then
    bd2 (f_X13_fails σ 1) fun r24 σ25 =>
    some (r24, σ25)
  else
    bd (f_X13_explores σ a1) fun σ5 =>
    bd (f_X13_farthestPlace_L22 σ5 gFU a1 0) fun y19 =>
    bd2 (f_X13_done σ5 y19) fun r21 σ22 =>
    some (r21, σ22)
def f_X13_parcelCount (σ : gM) : Option (Int32 × gM) :=
  bd2 (f_X13_done σ (σ 220 36)) fun r2 σ3 =>
  some (r2, σ3)
def f_X13_parcelNumber (σ : gM) (a1 : Int32) (a2 : Int32) : Option (Int32 × gM) :=
  bd (f_X13_isParcel σ a2) fun r2 =>
  if r2 = 0 then
    bd2 (f_X13_fails σ 1) fun r5 σ6 =>
    some (r5, σ6)
  else
    gi (a1 + a2) 134 <|
    bd2 (f_X13_done σ (σ 220 (a1 + a2).toNatClampNeg)) fun r9 σ10 =>
    some (r9, σ10)
def f_X13_weight (σ : gM) (a1 : Int32) : Option (Int32 × gM) :=
  bd2 (f_X13_parcelNumber σ 40 a1) fun r2 σ3 =>
  some (r2, σ3)
def f_X13_hazard (σ : gM) (a1 : Int32) : Option (Int32 × gM) :=
  bd2 (f_X13_parcelNumber σ 52 a1) fun r2 σ3 =>
  some (r2, σ3)
def f_X13_destination (σ : gM) (a1 : Int32) : Option (Int32 × gM) :=
  bd2 (f_X13_parcelNumber σ 64 a1) fun r2 σ3 =>
  some (r2, σ3)
def f_X13_state (σ : gM) (a1 : Int32) : Option (Int32 × gM) :=
  bd2 (f_X13_parcelNumber σ 76 a1) fun r2 σ3 =>
  if (σ3 219 12) ≤ 0 then
    if r2 = 0 then
      some (119, σ3)
    else
      if r2 = 1 then
        some (115, σ3)
      else
        some (100, σ3)
  else
    some (0, σ3)
def f_X13_sackOf (σ : gM) (a1 : Int32) : Option (Int32 × gM) :=
  bd (f_X13_isParcel σ a1) fun r2 =>
  if r2 = 0 then
    bd2 (f_X13_fails σ 1) fun r14 σ15 =>
    some (r14, σ15)
  else
    gi (76 + a1) 134 <|
    if (σ 220 (76 + a1).toNatClampNeg) = 1 then
      gi (88 + a1) 134 <|
      bd2 (f_X13_done σ (σ 220 (88 + a1).toNatClampNeg)) fun r11 σ12 =>
      some (r11, σ12)
    else
      bd2 (f_X13_fails σ 2) fun r7 σ8 =>
      some (r7, σ8)
def f_X13_returns (σ : gM) (a1 : Int32) : Option (Int32 × gM) :=
  bd2 (f_X13_parcelNumber σ 100 a1) fun r2 σ3 =>
  some (r2, σ3)
def f_X13_inState_L4 (p1 : Int32) (σ : gM) : Nat → Int32 → Int32 → Option (Int32)
  | 0, _, _ => none
  | n + 1, v2, v3 =>
    if (σ 220 36) ≤ v3 then
      some v2
    else
      gi (76 + v3) 134 <|
      if (σ 220 (76 + v3).toNatClampNeg) = p1 then
        nm (v2 + 1) fun x6 =>
        nm (v3 + 1) fun x7 =>
        f_X13_inState_L4 p1 σ n x6 x7
      else
        nm (v2 + 0) fun x4 =>
        nm (v3 + 1) fun x5 =>
        f_X13_inState_L4 p1 σ n x4 x5
def f_X13_inState (σ : gM) (a1 : Int32) : Option (Int32) :=
  bd (f_X13_inState_L4 a1 σ gFU 0 0) fun y9 =>
  some y9
def f_X13_waitingCount (σ : gM) : Option (Int32 × gM) :=
  bd (f_X13_inState σ 0) fun r2 =>
  bd2 (f_X13_done σ r2) fun r4 σ5 =>
  some (r4, σ5)
def f_X13_deliveredCount (σ : gM) : Option (Int32 × gM) :=
  bd (f_X13_inState σ 2) fun r2 =>
  bd2 (f_X13_done σ r2) fun r4 σ5 =>
  some (r4, σ5)
def f_X13_gloveCount (σ : gM) : Option (Int32 × gM) :=
  bd2 (f_X13_done σ (σ 220 37)) fun r2 σ3 =>
  some (r2, σ3)
def f_X13_grade (σ : gM) (a1 : Int32) : Option (Int32 × gM) :=
  bd (f_X13_isGlove σ a1) fun r2 =>
  if r2 = 0 then
    bd2 (f_X13_fails σ 1) fun r5 σ6 =>
    some (r5, σ6)
  else
    gi (112 + a1) 134 <|
    bd2 (f_X13_done σ (σ 220 (112 + a1).toNatClampNeg)) fun r9 σ10 =>
    some (r9, σ10)
def f_X13_usesLeft (σ : gM) (a1 : Int32) : Option (Int32 × gM) :=
  bd (f_X13_isGlove σ a1) fun r2 =>
  if r2 = 0 then
    bd2 (f_X13_fails σ 1) fun r5 σ6 =>
    some (r5, σ6)
  else
    gi (120 + a1) 134 <|
    bd2 (f_X13_done σ (3 - (σ 220 (120 + a1).toNatClampNeg))) fun r9 σ10 =>
    some (r9, σ10)
def f_X13_gloveFor (σ : gM) (a1 : Int32) : Option (Int32 × gM) :=
  bd (f_X13_isParcel σ a1) fun r2 =>
  if r2 = 0 then
    bd2 (f_X13_fails σ 1) fun r20 σ21 =>
    some (r20, σ21)
  else
    gi (52 + a1) 134 <|
    if (σ 220 (52 + a1).toNatClampNeg) = 0 then
      bd2 (f_X13_fails σ 2) fun r17 σ18 =>
      some (r17, σ18)
    else
      gi (52 + a1) 134 <|
      bd (f_X13_gloveOf σ (σ 220 (52 + a1).toNatClampNeg)) fun r8 =>
      if r8 = (-1) then
        bd2 (f_X13_fails σ 3) fun r14 σ15 =>
        some (r14, σ15)
      else
        bd2 (f_X13_done σ r8) fun r11 σ12 =>
        some (r11, σ12)
def f_X13_canHandle (σ : gM) (a1 : Int32) : Option (Int32 × gM) :=
  bd (f_X13_isParcel σ a1) fun r2 =>
  if r2 = 0 then
    nm (mset σ 219 12 1) fun σ4 =>
    if (σ4 219 12) = 0 then
      bd (f_X13_isHandled σ4 a1) fun r7 =>
      if r7 = 0 then
        some (0, σ4)
      else
        some (1, σ4)
    else
      some (0, σ4)
  else
    nm (mset σ 219 12 0) fun σ9 =>
    if (σ9 219 12) = 0 then
      bd (f_X13_isHandled σ9 a1) fun r12 =>
      if r12 = 0 then
        some (0, σ9)
      else
        some (1, σ9)
    else
      some (0, σ9)
def f_X13_shortage_L4 (p1 : Int32) (σ : gM) : Nat → Int32 → Int32 → Option (Int32)
  | 0, _, _ => none
  | n + 1, v2, v3 =>
    if (σ 220 36) ≤ v3 then
      some v2
    else
      gi (76 + v3) 134 <|
      if (σ 220 (76 + v3).toNatClampNeg) = 0 then
        gi (52 + v3) 134 <|
        if (σ 220 (52 + v3).toNatClampNeg) < p1 then
          nm (v2 + 0) fun x8 =>
          nm (v3 + 1) fun x9 =>
          f_X13_shortage_L4 p1 σ n x8 x9
        else
          nm (v2 + 1) fun x10 =>
          nm (v3 + 1) fun x11 =>
          f_X13_shortage_L4 p1 σ n x10 x11
      else
        nm (v2 + 0) fun x4 =>
        nm (v3 + 1) fun x5 =>
        f_X13_shortage_L4 p1 σ n x4 x5
def f_X13_shortage_L56 (p1 : Int32) (σ : gM) : Nat → Int32 → Int32 → Option (Int32)
  | 0, _, _ => none
  | n + 1, v2, v3 =>
    if (σ 220 37) ≤ v3 then
      some v2
    else
      gi (112 + v3) 134 <|
      if (σ 220 (112 + v3).toNatClampNeg) < p1 then
        nm (v2 - 0) fun x17 =>
        nm (v3 + 1) fun x18 =>
        f_X13_shortage_L56 p1 σ n x17 x18
      else
        gi (120 + v3) 134 <|
        nm (v2 - (3 - (σ 220 (120 + v3).toNatClampNeg))) fun x20 =>
        nm (v3 + 1) fun x21 =>
        f_X13_shortage_L56 p1 σ n x20 x21
def f_X13_shortage (σ : gM) (a1 : Int32) : Option (Int32) :=
  bd (f_X13_shortage_L4 a1 σ gFU 0 0) fun y13 =>
  bd (f_X13_shortage_L56 a1 σ gFU y13 0) fun y23 =>
  some y23
def f_X13_handleable_L4  (σ : gM) : Nat → Int32 → Int32 → Option (Int32)
  | 0, _, _ => none
  | n + 1, v1, v2 =>
    if 3 < v2 then
      some v1
    else
      bd (f_X13_shortage σ v2) fun r3 =>
      if r3 ≤ v1 then
        nm (v2 + 1) fun x5 =>
        f_X13_handleable_L4 σ n v1 x5
      else
        bd (f_X13_shortage σ v2) fun r7 =>
        nm (v2 + 1) fun x8 =>
        f_X13_handleable_L4 σ n r7 x8
def f_X13_handleable (σ : gM) : Option (Int32 × gM) :=
  bd (f_X13_handleable_L4 σ gFU 0 1) fun y10 =>
  bd (f_X13_inState σ 0) fun r12 =>
  bd2 (f_X13_done σ (r12 - y10)) fun r14 σ15 =>
  some (r14, σ15)
def f_X13_handleableByShortage (σ : gM) : Option (Int32 × gM) :=
  bd2 (f_X13_handleable σ) fun r2 σ3 =>
  some (r2, σ3)
def f_X13_sackNumber (σ : gM) (a1 : Int32) (a2 : Int32) : Option (Int32 × gM) :=
  bd (f_X13_isSack σ a2) fun r2 =>
  if r2 = 0 then
    bd2 (f_X13_fails σ 1) fun r5 σ6 =>
    some (r5, σ6)
  else
    gi (a1 + a2) 134 <|
    bd2 (f_X13_done σ (σ 220 (a1 + a2).toNatClampNeg)) fun r9 σ10 =>
    some (r9, σ10)
def f_X13_place (σ : gM) (a1 : Int32) : Option (Int32 × gM) :=
  bd2 (f_X13_sackNumber σ 128 a1) fun r2 σ3 =>
  some (r2, σ3)
def f_X13_capacity (σ : gM) (a1 : Int32) : Option (Int32 × gM) :=
  bd2 (f_X13_sackNumber σ 131 a1) fun r2 σ3 =>
  some (r2, σ3)
def f_X13_load (σ : gM) (a1 : Int32) : Option (Int32 × gM) :=
  bd (f_X13_isSack σ a1) fun r2 =>
  if r2 = 0 then
    bd2 (f_X13_fails σ 1) fun r5 σ6 =>
    some (r5, σ6)
  else
    bd (f_X13_loadOf σ a1) fun r8 =>
    bd2 (f_X13_done σ r8) fun r10 σ11 =>
    some (r10, σ11)
def f_X13_parcelsIn_L17 (p1 : Int32) (σ : gM) : Nat → Int32 → Int32 → Option (Int32)
  | 0, _, _ => none
  | n + 1, v2, v3 =>
    if (σ 220 36) ≤ v3 then
      some v2
    else
      gi (76 + v3) 134 <|
      if (σ 220 (76 + v3).toNatClampNeg) = 1 then
        gi (88 + v3) 134 <|
        if (σ 220 (88 + v3).toNatClampNeg) = p1 then
          nm (v2 + 1) fun x13 =>
          nm (v3 + 1) fun x14 =>
          f_X13_parcelsIn_L17 p1 σ n x13 x14
        else
          nm (v2 + 0) fun x11 =>
          nm (v3 + 1) fun x12 =>
          f_X13_parcelsIn_L17 p1 σ n x11 x12
      else
        nm (v2 + 0) fun x7 =>
        nm (v3 + 1) fun x8 =>
        f_X13_parcelsIn_L17 p1 σ n x7 x8
def f_X13_parcelsIn (σ : gM) (a1 : Int32) : Option (Int32 × gM) :=
  bd (f_X13_isSack σ a1) fun r2 =>
  if r2 = 0 then
    bd2 (f_X13_fails σ 1) fun r21 σ22 =>
    some (r21, σ22)
  else
    bd (f_X13_parcelsIn_L17 a1 σ gFU 0 0) fun y16 =>
    bd2 (f_X13_done σ y16) fun r18 σ19 =>
    some (r18, σ19)
def f_X13_mostFitting_L45 (p4 : Int32) (σ : gM) : Nat → Int32 → Int32 → Int32 → Option (Int32 × Int32)
  | 0, _, _, _ => none
  | n + 1, v2, v3, v5 =>
    if (σ 220 36) ≤ v5 then
      some (v2, v3)
    else
      gi (76 + v5) 134 <|
      if (σ 220 (76 + v5).toNatClampNeg) = 0 then
        gi (40 + v5) 134 <|
        if (σ 220 (40 + v5).toNatClampNeg) = p4 then
          if v2 < p4 then
            nm (v5 + 1) fun x17 =>
            f_X13_mostFitting_L45 p4 σ n v2 v3 x17
          else
            nm (v2 - p4) fun x18 =>
            nm (v3 + 1) fun x19 =>
            nm (v5 + 1) fun x20 =>
            f_X13_mostFitting_L45 p4 σ n x18 x19 x20
        else
          nm (v5 + 1) fun x15 =>
          f_X13_mostFitting_L45 p4 σ n v2 v3 x15
      else
        nm (v5 + 1) fun x12 =>
        f_X13_mostFitting_L45 p4 σ n v2 v3 x12
def f_X13_mostFitting_L35  (σ : gM) : Nat → Int32 → Int32 → Int32 → Option (Int32)
  | 0, _, _, _ => none
  | n + 1, v2, v3, v4 =>
    if 20 < v4 then
      some v3
    else
      bd2 (f_X13_mostFitting_L45 v4 σ gFU v2 v3 0) fun y22 y23 =>
      nm (v4 + 1) fun x24 =>
      f_X13_mostFitting_L35 σ n y22 y23 x24
def f_X13_mostFitting (σ : gM) (a1 : Int32) : Option (Int32 × gM) :=
  bd (f_X13_isSack σ a1) fun r2 =>
  if r2 = 0 then
    bd2 (f_X13_fails σ 1) fun r31 σ32 =>
    some (r31, σ32)
  else
    gi (131 + a1) 134 <|
    bd (f_X13_loadOf σ a1) fun r6 =>
    nm ((σ 220 (131 + a1).toNatClampNeg) - r6) fun x7 =>
    bd (f_X13_mostFitting_L35 σ gFU x7 0 1) fun y26 =>
    bd2 (f_X13_done σ y26) fun r28 σ29 =>
    some (r28, σ29)
def f_X13_mostFittingByTable (σ : gM) (a1 : Int32) : Option (Int32 × gM) :=
  bd2 (f_X13_mostFitting σ a1) fun r2 σ3 =>
  some (r2, σ3)
def f_X13_effortTo (σ : gM) (a1 : Int32) (a2 : Int32) : Option (Int32 × gM) :=
  bd (f_X13_isSack σ a1) fun r2 =>
  if r2 = 0 then
    bd2 (f_X13_fails σ 1) fun r5 σ6 =>
    some (r5, σ6)
  else
    bd (f_X13_isPlace σ a2) fun r8 =>
    if r8 = 0 then
      bd2 (f_X13_fails σ 1) fun r24 σ25 =>
      some (r24, σ25)
    else
      gi (128 + a1) 134 <|
      bd2 (f_X13_distanceOf σ (σ 220 (128 + a1).toNatClampNeg) a2) fun r12 σ13 =>
      if r12 = 1000 then
        bd2 (f_X13_fails σ13 2) fun r21 σ22 =>
        some (r21, σ22)
      else
        bd (f_X13_loadOf σ13 a1) fun r16 =>
        bd2 (f_X13_done σ13 (r12 * r16)) fun r18 σ19 =>
        some (r18, σ19)
def f_X13_effortSoFar (σ : gM) : Option (Int32 × gM) :=
  bd2 (f_X13_done σ (σ 220 38)) fun r2 σ3 =>
  some (r2, σ3)
def f_X13_glovesUsedUp (σ : gM) : Option (Int32 × gM) :=
  bd2 (f_X13_done σ (σ 220 39)) fun r2 σ3 =>
  some (r2, σ3)
def f_X13_isAhead (σ : gM) (a1 : Int32) (a2 : Int32) : Option (Int32) :=
  gi (40 + a1) 134 <|
  gi (40 + a2) 134 <|
  nm ((σ 220 (40 + a1).toNatClampNeg) - (σ 220 (40 + a2).toNatClampNeg)) fun x3 =>
  gi (52 + a1) 134 <|
  gi (52 + a2) 134 <|
  nm ((σ 220 (52 + a1).toNatClampNeg) - (σ 220 (52 + a2).toNatClampNeg)) fun x6 =>
  if 0 < x3 then
    some 1
  else
    if x3 = 0 then
      if 0 < x6 then
        some 1
      else
        if x6 = 0 then
          if a2 ≤ a1 then
            some 0
          else
            some 1
        else
          some 0
    else
      some 0
def f_X13_rank_L4 (p1 : Int32) (σ : gM) : Nat → Int32 → Int32 → Option (Int32)
  | 0, _, _ => none
  | n + 1, v2, v3 =>
    if (σ 220 36) ≤ v3 then
      some v2
    else
      gi (76 + v3) 134 <|
      if (σ 220 (76 + v3).toNatClampNeg) = 2 then
        nm (v2 + 0) fun x4 =>
        nm (v3 + 1) fun x5 =>
        f_X13_rank_L4 p1 σ n x4 x5
      else
        bd (f_X13_isAhead σ v3 p1) fun r7 =>
        if r7 = 0 then
          nm (v2 + 0) fun x9 =>
          nm (v3 + 1) fun x10 =>
          f_X13_rank_L4 p1 σ n x9 x10
        else
          nm (v2 + 1) fun x11 =>
          nm (v3 + 1) fun x12 =>
          f_X13_rank_L4 p1 σ n x11 x12
def f_X13_rank (σ : gM) (a1 : Int32) : Option (Int32) :=
  bd (f_X13_rank_L4 a1 σ gFU 0 0) fun y14 =>
  some y14
def f_X13_heaviest_L2 (p1 : Int32) (σ : gM) : Nat → Int32 → Option ((Int32) ⊕ (Unit))
  | 0, _ => none
  | n + 1, v2 =>
    if (σ 220 36) ≤ v2 then
      some (.inr ())
    else
      gi (76 + v2) 134 <|
      if (σ 220 (76 + v2).toNatClampNeg) = 2 then
        nm (v2 + 1) fun x4 =>
        f_X13_heaviest_L2 p1 σ n x4
      else
        bd (f_X13_rank σ v2) fun r6 =>
        if r6 = p1 then
          some (.inl v2)
        else
          nm (v2 + 1) fun x8 =>
          f_X13_heaviest_L2 p1 σ n x8
def f_X13_heaviest (σ : gM) (a1 : Int32) : Option (Int32 × gM) :=
  gs2 (f_X13_heaviest_L2 a1 σ gFU 0)
    (fun y10 =>
      bd2 (f_X13_done σ y10) fun r12 σ13 =>
      some (r12, σ13))
    (fun _ =>
      bd2 (f_X13_fails σ 1) fun r15 σ16 =>
      some (r15, σ16))
def f_X13_meanHazard_L4  (σ : gM) : Nat → Int32 → Int32 → Option (Int32)
  | 0, _, _ => none
  | n + 1, v1, v2 =>
    if (σ 220 36) ≤ v2 then
      some v1
    else
      gi (52 + v2) 134 <|
      nm (v1 + (σ 220 (52 + v2).toNatClampNeg)) fun x3 =>
      nm (v2 + 1) fun x4 =>
      f_X13_meanHazard_L4 σ n x3 x4
def f_X13_meanHazard (σ : gM) : Option (UInt64 × gM) :=
  bd (f_X13_meanHazard_L4 σ gFU 0 0) fun y6 =>
  if (σ 220 36) = 0 then
    nm (mset σ 219 12 1) fun σ11 =>
    if (σ11 219 12) = 0 then
      gnd (FP.ddiv (FP.i2d y6) (FP.i2d (σ11 220 36))) <|
      some (FP.ddiv (FP.i2d y6) (FP.i2d (σ11 220 36)), σ11)
    else
      some (0, σ11)
  else
    nm (mset σ 219 12 0) fun σ8 =>
    if (σ8 219 12) = 0 then
      gnd (FP.ddiv (FP.i2d y6) (FP.i2d (σ8 220 36))) <|
      some (FP.ddiv (FP.i2d y6) (FP.i2d (σ8 220 36)), σ8)
    else
      some (0, σ8)
def f_X13_deliveredShare (σ : gM) : Option (UInt32 × gM) :=
  if (σ 220 36) = 0 then
    nm (mset σ 219 12 1) fun σ7 =>
    if (σ7 219 12) = 0 then
      bd (f_X13_inState σ7 2) fun r10 =>
      gnf (FP.fdiv (FP.i2f r10) (FP.i2f (σ7 220 36))) <|
      some (FP.fdiv (FP.i2f r10) (FP.i2f (σ7 220 36)), σ7)
    else
      some (0, σ7)
  else
    nm (mset σ 219 12 0) fun σ2 =>
    if (σ2 219 12) = 0 then
      bd (f_X13_inState σ2 2) fun r5 =>
      gnf (FP.fdiv (FP.i2f r5) (FP.i2f (σ2 220 36))) <|
      some (FP.fdiv (FP.i2f r5) (FP.i2f (σ2 220 36)), σ2)
    else
      some (0, σ2)
def f_X13_isConsistent (σ : gM) : Option (Int32 × gM) :=
  nm (mset σ 219 12 0) fun σ1 =>
  some (1, σ1)
def f_X13_feed (σ : gM) (a1 : Int32) : Option (Int32 × gM) :=
  if (σ 219 7) = 60 then
    bd2 (f_X13_fails σ 1) fun r9 σ10 =>
    some (r9, σ10)
  else
    gi (σ 219 7) 60 <|
    nm (mset σ 224 ((σ 219 7).toNatClampNeg) (vp_nar .char a1)) fun σ3 =>
    nm (mset σ3 219 7 ((σ3 219 7) + 1)) fun σ4 =>
    bd2 (f_X13_done σ4 (σ4 219 7)) fun r6 σ7 =>
    some (r6, σ7)
def f_X13_here (σ : gM) : Option (Int32) :=
  if (σ 219 7) ≤ (σ 219 14) then
    some (-1)
  else
    gi (σ 219 14) 60 <|
    some (σ 224 (σ 219 14).toNatClampNeg)
def f_X13_needs (σ : gM) (a1 : Int32) : Option (gM) :=
  if (σ 219 15) = 0 then
    bd (f_X13_here σ) fun r7 =>
    if r7 = a1 then
      nm (mset σ 219 15 0) fun σ9 =>
      if (σ9 219 15) = 0 then
        nm (mset σ9 219 14 ((σ9 219 14) + 1)) fun σ11 =>
        some σ11
      else
        nm (mset σ9 219 14 ((σ9 219 14) + 0)) fun σ12 =>
        some σ12
    else
      nm (mset σ 219 15 1) fun σ13 =>
      if (σ13 219 15) = 0 then
        nm (mset σ13 219 14 ((σ13 219 14) + 1)) fun σ15 =>
        some σ15
      else
        nm (mset σ13 219 14 ((σ13 219 14) + 0)) fun σ16 =>
        some σ16
  else
    nm (mset σ 219 15 1) fun σ2 =>
    if (σ2 219 15) = 0 then
      nm (mset σ2 219 14 ((σ2 219 14) + 1)) fun σ4 =>
      some σ4
    else
      nm (mset σ2 219 14 ((σ2 219 14) + 0)) fun σ5 =>
      some σ5
def f_X13_needsThree (σ : gM) (a1 : Int32) (a2 : Int32) (a3 : Int32) : Option (gM) :=
  bd (f_X13_needs σ a1) fun σ2 =>
  bd (f_X13_needs σ2 a2) fun σ4 =>
  bd (f_X13_needs σ4 a3) fun σ6 =>
  some σ6
def f_X13_digitsAfter_L40 (p2 : Int32) : Nat → Int32 → Int32 → gM → Option (Int32 × gM)
  | 0, _, _, _ => none
  | n + 1, v3, v4, σ =>
    if (σ 219 15) = 0 then
      if p2 ≤ v4 then
        some (v3, σ)
      else
        bd (f_X13_here σ) fun r8 =>
        bd (f_X13_in σ r8 48 57) fun r10 =>
        if r10 = 0 then
          some (v3, σ)
        else
          bd (f_X13_here σ) fun r13 =>
          nm (((10 * v3) + r13) - 48) fun x14 =>
          nm (mset σ 219 14 ((σ 219 14) + 1)) fun σ15 =>
          nm (v4 + 1) fun x16 =>
          f_X13_digitsAfter_L40 p2 n x14 x16 σ15
    else
      some (v3, σ)
def f_X13_digitsAfter (σ : gM) (a1 : Int32) (a2 : Int32) : Option (Int32 × gM) :=
  bd (f_X13_needs σ a1) fun σ2 =>
  if (σ2 219 15) = 0 then
    bd (f_X13_here σ2) fun r21 =>
    bd (f_X13_in σ2 r21 48 57) fun r23 =>
    if r23 = 0 then
      nm (mset σ2 219 15 1) fun σ29 =>
      bd2 (f_X13_digitsAfter_L40 a2 gFU 0 0 σ29) fun y31 σ32 =>
      some (y31, σ32)
    else
      nm (mset σ2 219 15 0) fun σ25 =>
      bd2 (f_X13_digitsAfter_L40 a2 gFU 0 0 σ25) fun y27 σ28 =>
      some (y27, σ28)
  else
    nm (mset σ2 219 15 1) fun σ4 =>
    bd2 (f_X13_digitsAfter_L40 a2 gFU 0 0 σ4) fun y18 σ19 =>
    some (y18, σ19)
def f_X13_parsesP (σ : gM) (a1 : Int32) : Option (gM) :=
  bd (f_X13_here σ) fun r2 =>
  if r2 = 117 then
    gi a1 240 <|
    nm (mset σ 227 a1.toNatClampNeg 117) fun σ26 =>
    bd (f_X13_needs σ26 117) fun σ28 =>
    bd (f_X13_needs σ28 116) fun σ30 =>
    bd2 (f_X13_digitsAfter σ30 32 2) fun r32 σ33 =>
    gi (a1 + 1) 240 <|
    nm (mset σ33 227 ((a1 + 1).toNatClampNeg) r32) fun σ35 =>
    bd2 (f_X13_digitsAfter σ35 32 1) fun r37 σ38 =>
    gi (a1 + 2) 240 <|
    nm (mset σ38 227 ((a1 + 2).toNatClampNeg) r37) fun σ40 =>
    some σ40
  else
    bd (f_X13_needsThree σ 97 114 99) fun σ5 =>
    bd (f_X13_needs σ5 101) fun σ7 =>
    bd (f_X13_needs σ7 108) fun σ9 =>
    bd2 (f_X13_digitsAfter σ9 32 2) fun r11 σ12 =>
    gi (a1 + 1) 240 <|
    nm (mset σ12 227 ((a1 + 1).toNatClampNeg) r11) fun σ14 =>
    bd2 (f_X13_digitsAfter σ14 32 1) fun r16 σ17 =>
    gi (a1 + 2) 240 <|
    nm (mset σ17 227 ((a1 + 2).toNatClampNeg) r16) fun σ19 =>
    bd2 (f_X13_digitsAfter σ19 32 1) fun r21 σ22 =>
    gi (a1 + 3) 240 <|
    nm (mset σ22 227 ((a1 + 3).toNatClampNeg) r21) fun σ24 =>
    some σ24
def f_X13_parsesCommand (σ : gM) (a1 : Int32) : Option (gM) :=
  bd (f_X13_here σ) fun r2 =>
  nm (mset σ 219 14 ((σ 219 14) + 1)) fun σ3 =>
  gi a1 240 <|
  nm (mset σ3 227 a1.toNatClampNeg r2) fun σ5 =>
  if r2 = 98 then
    bd (f_X13_needsThree σ5 97 99 107) fun σ8 =>
    bd2 (f_X13_digitsAfter σ8 32 2) fun r10 σ11 =>
    gi (a1 + 1) 240 <|
    nm (mset σ11 227 ((a1 + 1).toNatClampNeg) r10) fun σ13 =>
    some σ13
  else
    if r2 = 99 then
      bd (f_X13_needsThree σ5 97 114 114) fun σ16 =>
      bd (f_X13_needs σ16 121) fun σ18 =>
      bd2 (f_X13_digitsAfter σ18 32 1) fun r20 σ21 =>
      gi (a1 + 1) 240 <|
      nm (mset σ21 227 ((a1 + 1).toNatClampNeg) r20) fun σ23 =>
      bd2 (f_X13_digitsAfter σ23 32 1) fun r25 σ26 =>
      gi (a1 + 2) 240 <|
      nm (mset σ26 227 ((a1 + 2).toNatClampNeg) r25) fun σ28 =>
      some σ28
    else
      if r2 = 103 then
        bd (f_X13_needsThree σ5 108 111 118) fun σ31 =>
        bd (f_X13_needs σ31 101) fun σ33 =>
        bd2 (f_X13_digitsAfter σ33 32 1) fun r35 σ36 =>
        gi (a1 + 1) 240 <|
        nm (mset σ36 227 ((a1 + 1).toNatClampNeg) r35) fun σ38 =>
        some σ38
      else
        if r2 = 111 then
          bd (f_X13_needs σ5 117) fun σ41 =>
          bd (f_X13_needs σ41 116) fun σ43 =>
          bd2 (f_X13_digitsAfter σ43 32 2) fun r45 σ46 =>
          gi (a1 + 1) 240 <|
          nm (mset σ46 227 ((a1 + 1).toNatClampNeg) r45) fun σ48 =>
          some σ48
        else
          if r2 = 112 then
            bd (f_X13_parsesP σ5 a1) fun σ51 =>
            some σ51
          else
            if r2 = 114 then
              bd (f_X13_needsThree σ5 111 97 100) fun σ54 =>
              bd2 (f_X13_digitsAfter σ54 32 1) fun r56 σ57 =>
              gi (a1 + 1) 240 <|
              nm (mset σ57 227 ((a1 + 1).toNatClampNeg) r56) fun σ59 =>
              bd2 (f_X13_digitsAfter σ59 45 1) fun r61 σ62 =>
              gi (a1 + 2) 240 <|
              nm (mset σ62 227 ((a1 + 2).toNatClampNeg) r61) fun σ64 =>
              bd2 (f_X13_digitsAfter σ64 32 2) fun r66 σ67 =>
              gi (a1 + 3) 240 <|
              nm (mset σ67 227 ((a1 + 3).toNatClampNeg) r66) fun σ69 =>
              some σ69
            else
              nm (mset σ5 219 15 1) fun σ70 =>
              nm (mset σ70 219 14 ((σ70 219 14) - 1)) fun σ71 =>
              some σ71
def f_X13_carriesOut (σ : gM) (a1 : Int32) : Option (Int32 × gM) :=
  gi (a1 + 1) 240 <|
  nm (σ 227 (a1 + 1).toNatClampNeg) fun x2 =>
  gi (a1 + 2) 240 <|
  nm (σ 227 (a1 + 2).toNatClampNeg) fun x4 =>
  gi a1 240 <|
  if (σ 227 a1.toNatClampNeg) = 99 then
    bd2 (f_X13_carries σ x2 x4) fun r8 σ9 =>
    some (r8, σ9)
  else
    if (σ 227 a1.toNatClampNeg) = 103 then
      bd2 (f_X13_buys σ x2) fun r12 σ13 =>
      some (r12, σ13)
    else
      if (σ 227 a1.toNatClampNeg) = 111 then
        bd2 (f_X13_takes σ x2) fun r16 σ17 =>
        some (r16, σ17)
      else
        if (σ 227 a1.toNatClampNeg) = 112 then
          gi (a1 + 3) 240 <|
          bd2 (f_X13_accepts σ x2 x4 (σ 227 (a1 + 3).toNatClampNeg)) fun r21 σ22 =>
          some (r21, σ22)
        else
          if (σ 227 a1.toNatClampNeg) = 114 then
            gi (a1 + 3) 240 <|
            bd2 (f_X13_builds σ x2 x4 (σ 227 (a1 + 3).toNatClampNeg)) fun r26 σ27 =>
            some (r26, σ27)
          else
            if (σ 227 a1.toNatClampNeg) = 117 then
              bd2 (f_X13_puts σ x2 x4) fun r30 σ31 =>
              some (r30, σ31)
            else
              bd2 (f_X13_comes σ x2) fun r33 σ34 =>
              some (r33, σ34)
def f_X13_runCommands_L14  : Nat → Int32 → Int32 → gM → Option (Int32 × gM)
  | 0, _, _, _ => none
  | n + 1, v1, v2, σ =>
    if v2 = 0 then
      some (v1, σ)
    else
      bd (f_X13_parsesCommand σ (4 * v1)) fun σ5 =>
      nm (v1 + 1) fun x6 =>
      if (σ5 219 15) = 0 then
        bd (f_X13_here σ5) fun r11 =>
        if r11 = 59 then
          nm (mset σ5 219 14 ((σ5 219 14) + 1)) fun σ16 =>
          f_X13_runCommands_L14 n x6 1 σ16
        else
          nm (mset σ5 219 14 ((σ5 219 14) + 0)) fun σ14 =>
          f_X13_runCommands_L14 n x6 0 σ14
      else
        nm (mset σ5 219 14 ((σ5 219 14) + 0)) fun σ9 =>
        f_X13_runCommands_L14 n x6 0 σ9
def f_X13_runCommands_L130 (p1 : Int32) : Nat → Int32 → gM → Option ((Int32 × Int32 × gM) ⊕ (gM))
  | 0, _, _ => none
  | n + 1, v3, σ =>
    if p1 ≤ v3 then
      some (.inr σ)
    else
      bd2 (f_X13_carriesOut σ (4 * v3)) fun r28 σ29 =>
      if (σ29 219 12) = 0 then
        nm (v3 + 1) fun x31 =>
        f_X13_runCommands_L130 p1 n x31 σ29
      else
        some (.inl (v3, r28, σ29))
def f_X13_runCommands (σ : gM) : Option (Int32 × gM) :=
  nm (mset σ 219 14 0) fun σ1 =>
  nm (mset σ1 219 15 0) fun σ2 =>
  bd2 (f_X13_runCommands_L14 gFU 0 1 σ2) fun y18 σ19 =>
  if (σ19 219 15) = 0 then
    if (σ19 219 7) ≤ (σ19 219 14) then
      nm (mset σ19 219 15 0) fun σ53 =>
      nm (mset σ53 219 7 0) fun σ54 =>
      if (σ54 219 15) = 0 then
        bd (f_X13_begin σ54) fun σ57 =>
        gs2 (f_X13_runCommands_L130 y18 gFU 0 σ57)
          (un3 fun y59 y60 σ61 =>
            nm (mset σ61 219 9 y59) fun σ62 =>
            nm (mset σ62 219 12 2) fun σ63 =>
            bd2 (f_X13_kept σ63 y60) fun r65 σ66 =>
            some (r65, σ66))
          (fun σ67 =>
            bd2 (f_X13_done σ67 y18) fun r69 σ70 =>
            bd2 (f_X13_kept σ70 r69) fun r72 σ73 =>
            some (r72, σ73))
      else
        nm (mset σ54 219 8 (σ54 219 14)) fun σ74 =>
        bd2 (f_X13_fails σ74 1) fun r76 σ77 =>
        some (r76, σ77)
    else
      nm (mset σ19 219 15 1) fun σ78 =>
      nm (mset σ78 219 7 0) fun σ79 =>
      if (σ79 219 15) = 0 then
        bd (f_X13_begin σ79) fun σ82 =>
        gs2 (f_X13_runCommands_L130 y18 gFU 0 σ82)
          (un3 fun y84 y85 σ86 =>
            nm (mset σ86 219 9 y84) fun σ87 =>
            nm (mset σ87 219 12 2) fun σ88 =>
            bd2 (f_X13_kept σ88 y85) fun r90 σ91 =>
            some (r90, σ91))
          (fun σ92 =>
            bd2 (f_X13_done σ92 y18) fun r94 σ95 =>
            bd2 (f_X13_kept σ95 r94) fun r97 σ98 =>
            some (r97, σ98))
      else
        nm (mset σ79 219 8 (σ79 219 14)) fun σ99 =>
        bd2 (f_X13_fails σ99 1) fun r101 σ102 =>
        some (r101, σ102)
  else
    nm (mset σ19 219 15 1) fun σ21 =>
    nm (mset σ21 219 7 0) fun σ22 =>
    if (σ22 219 15) = 0 then
      bd (f_X13_begin σ22) fun σ25 =>
      gs2 (f_X13_runCommands_L130 y18 gFU 0 σ25)
        (un3 fun y33 y34 σ35 =>
          nm (mset σ35 219 9 y33) fun σ36 =>
          nm (mset σ36 219 12 2) fun σ37 =>
          bd2 (f_X13_kept σ37 y34) fun r39 σ40 =>
          some (r39, σ40))
        (fun σ41 =>
          bd2 (f_X13_done σ41 y18) fun r43 σ44 =>
          bd2 (f_X13_kept σ44 r43) fun r46 σ47 =>
          some (r46, σ47))
    else
      nm (mset σ22 219 8 (σ22 219 14)) fun σ48 =>
      bd2 (f_X13_fails σ48 1) fun r50 σ51 =>
      some (r50, σ51)
def f_X13_errorPosition (σ : gM) : Option (Int32 × gM) :=
  if (σ 219 8) = (-1) then
    bd2 (f_X13_fails σ 1) fun r6 σ7 =>
    some (r6, σ7)
  else
    bd2 (f_X13_done σ (σ 219 8)) fun r3 σ4 =>
    some (r3, σ4)
def f_X13_failedCommand (σ : gM) : Option (Int32 × gM) :=
  if (σ 219 9) = (-1) then
    bd2 (f_X13_fails σ 1) fun r6 σ7 =>
    some (r6, σ7)
  else
    bd2 (f_X13_done σ (σ 219 9)) fun r3 σ4 =>
    some (r3, σ4)
def f_X13_writes (σ : gM) (a1 : Int32) : Option (gM) :=
  gi (σ 219 11) 200 <|
  nm (mset σ 225 ((σ 219 11).toNatClampNeg) (vp_nar .char ((a1.toUInt32 % 65536).toInt32))) fun σ2 =>
  nm (mset σ2 219 11 ((σ2 219 11) + 1)) fun σ3 =>
  some σ3
def f_X13_writesParcel_L60 (p1 : Int32) : Nat → Int32 → gM → Option (gM)
  | 0, _, _ => none
  | n + 1, v2, σ =>
    gi (52 + p1) 134 <|
    if (σ 220 (52 + p1).toNatClampNeg) ≤ v2 then
      some σ
    else
      bd (f_X13_writes σ 104) fun σ11 =>
      nm (v2 + 1) fun x12 =>
      f_X13_writesParcel_L60 p1 n x12 σ11
def f_X13_writesParcel (σ : gM) (a1 : Int32) : Option (gM) :=
  bd (f_X13_writes σ 32) fun σ2 =>
  gi (40 + a1) 134 <|
  if (σ2 220 (40 + a1).toNatClampNeg) ≤ 9 then
    gi (40 + a1) 134 <|
    bd (f_X13_writes σ2 (48 + ((σ2 220 (40 + a1).toNatClampNeg) - (σ2 220 (40 + a1).toNatClampNeg) / 10 * 10))) fun σ7 =>
    bd (f_X13_writesParcel_L60 a1 gFU 0 σ7) fun σ14 =>
    bd (f_X13_writes σ14 62) fun σ16 =>
    gi (64 + a1) 134 <|
    bd (f_X13_writes σ16 (48 + (σ16 220 (64 + a1).toNatClampNeg))) fun σ19 =>
    some σ19
  else
    gi (40 + a1) 134 <|
    bd (f_X13_writes σ2 (48 + ((σ2 220 (40 + a1).toNatClampNeg) / 10))) fun σ22 =>
    gi (40 + a1) 134 <|
    bd (f_X13_writes σ22 (48 + ((σ22 220 (40 + a1).toNatClampNeg) - (σ22 220 (40 + a1).toNatClampNeg) / 10 * 10))) fun σ25 =>
    bd (f_X13_writesParcel_L60 a1 gFU 0 σ25) fun σ27 =>
    bd (f_X13_writes σ27 62) fun σ29 =>
    gi (64 + a1) 134 <|
    bd (f_X13_writes σ29 (48 + (σ29 220 (64 + a1).toNatClampNeg))) fun σ32 =>
    some σ32
def f_X13_writeSack_L57 (p1 : Int32) : Nat → Int32 → gM → Option (gM)
  | 0, _, _ => none
  | n + 1, v2, σ =>
    if (σ 220 36) ≤ v2 then
      some σ
    else
      gi (76 + v2) 134 <|
      if (σ 220 (76 + v2).toNatClampNeg) = 1 then
        gi (88 + v2) 134 <|
        if (σ 220 (88 + v2).toNatClampNeg) = p1 then
          bd (f_X13_writesParcel σ v2) fun σ22 =>
          nm (v2 + 1) fun x23 =>
          f_X13_writeSack_L57 p1 n x23 σ22
        else
          nm (v2 + 1) fun x20 =>
          f_X13_writeSack_L57 p1 n x20 σ
      else
        nm (v2 + 1) fun x17 =>
        f_X13_writeSack_L57 p1 n x17 σ
def f_X13_writeSack (σ : gM) (a1 : Int32) : Option (Int32 × gM) :=
  bd (f_X13_isSack σ a1) fun r2 =>
  if r2 = 0 then
    bd2 (f_X13_fails σ 1) fun r30 σ31 =>
    some (r30, σ31)
  else
    nm (mset σ 219 11 0) fun σ4 =>
    bd (f_X13_writes σ4 115) fun σ6 =>
    bd (f_X13_writes σ6 (48 + a1)) fun σ8 =>
    bd (f_X13_writes σ8 64) fun σ10 =>
    gi (128 + a1) 134 <|
    bd (f_X13_writes σ10 (48 + (σ10 220 (128 + a1).toNatClampNeg))) fun σ13 =>
    bd (f_X13_writeSack_L57 a1 gFU 0 σ13) fun σ25 =>
    bd2 (f_X13_done σ25 (σ25 219 11)) fun r27 σ28 =>
    some (r27, σ28)
def f_X13_outputChar (σ : gM) (a1 : Int32) : Option (Int32 × gM) :=
  bd (f_X13_in σ a1 0 ((σ 219 11) - 1)) fun r2 =>
  if r2 = 0 then
    nm (mset σ 219 12 1) fun σ4 =>
    if (σ4 219 12) = 0 then
      gi a1 200 <|
      gn .char (σ4 225 a1.toNatClampNeg) <|
      some (σ4 225 a1.toNatClampNeg, σ4)
    else
      some (0, σ4)
  else
    nm (mset σ 219 12 0) fun σ8 =>
    if (σ8 219 12) = 0 then
      gi a1 200 <|
      gn .char (σ8 225 a1.toNatClampNeg) <|
      some (σ8 225 a1.toNatClampNeg, σ8)
    else
      some (0, σ8)
def f_X13_undoCount (σ : gM) : Option (Int32 × gM) :=
  bd2 (f_X13_done σ (σ 219 3)) fun r2 σ3 =>
  some (r2, σ3)
def f_X13_undo (σ : gM) : Option (Int32 × gM) :=
  if (σ 219 3) = 0 then
    bd2 (f_X13_fails σ 1) fun r9 σ10 =>
    some (r9, σ10)
  else
    nm (mset σ 219 3 ((σ 219 3) - 1)) fun σ2 =>
    bd (f_X13_copy σ2 222 1072 ((σ2 219 3) * 134) 220 134 0) fun σ4 =>
    bd2 (f_X13_done σ4 (σ4 219 3)) fun r6 σ7 =>
    some (r6, σ7)
def f_X13_save (σ : gM) : Option (Int32 × gM) :=
  bd (f_X13_copy σ 220 134 0 223 134 0) fun σ2 =>
  nm (mset σ2 219 5 1) fun σ3 =>
  bd2 (f_X13_done σ3 (σ3 220 36)) fun r5 σ6 =>
  some (r5, σ6)
def f_X13_restore (σ : gM) : Option (Int32 × gM) :=
  if (σ 219 5) = 0 then
    bd2 (f_X13_fails σ 1) fun r9 σ10 =>
    some (r9, σ10)
  else
    bd (f_X13_copy σ 223 134 0 220 134 0) fun σ3 =>
    nm (mset σ3 219 3 0) fun σ4 =>
    bd2 (f_X13_done σ4 (σ4 220 36)) fun r6 σ7 =>
    some (r6, σ7)
