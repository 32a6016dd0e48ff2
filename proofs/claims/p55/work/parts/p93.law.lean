/-! THE LAW in pieces -/
set_option maxRecDepth 100000 in
def f_Z9 (σ133 : gM) (r6 r9 : Int32) : Option Unit :=
  btn2 (f_X12_restore σ133) fun r414 σ415 =>
  if r414 = r6 then
  bd (f_L_state σ415) fun r418 =>
  if r418 = r9 then
  some ()
  else none
  else none
set_option maxRecDepth 100000 in
def f_Z8 (σ365 σ133 : gM) (r6 r9 : Int32) : Option Unit :=
  btn2 (f_X12_writeSack σ365 0) fun r371 σ372 =>
  bd (f_L_isLine σ372 r371 (gByt.getD 33 [])) fun r374 =>
  if r374 = 0 then none else
  btn (f_X12_heaviest σ372 0) fun r377 =>
  if r377 = 1 then
  btn (f_X12_heaviest σ372 1) fun r380 =>
  if r380 = 2 then
  btn (f_X12_heaviest σ372 2) fun r383 =>
  if r383 = 0 then
  bd (f_X12_waitingCount σ372) fun r386 =>
  if r386 = 1 then
  bd2 (f_L_act σ372 3 0 19 0) fun r389 σ390 =>
  if r389 = (-3) then
  btn2 (f_X12_setCapacity σ390 0 20) fun r393 σ394 =>
  if r393 = 31 then
  btn (f_X12_meanHazard σ394) fun r397 =>
  if (Op.cmpValue (FP.dcmp r397 (4612436618365282987 : UInt64)) .l) = 0 then
  btn (f_X12_deliveredShare σ394) fun r400 =>
  if (Op.cmpValue (FP.fcmp r400 0) .l) = 0 then
  btn2 (f_X12_undo σ394) fun r403 σ404 =>
  if r403 < 0 then none else
  btn (f_X12_capacity σ404 0) fun r407 =>
  if r407 = 31 then
  bd2 (f_X12_isConsistent σ404) fun r410 σ411 =>
  if r410 = 0 then none else
  f_Z9 σ133 r6 r9
  else none
  else none
  else none
  else none
  else none
  else none
  else none
  else none
  else none
set_option maxRecDepth 100000 in
def f_Z7 (σ341 σ133 : gM) (r6 r9 : Int32) : Option Unit :=
  btn2 (f_X12_put σ341 2 2) fun r344 σ345 =>
  if r344 = 15 then
  bd (f_X12_gloveCount σ345) fun r348 =>
  if r348 = 1 then
  bd (f_X12_glovesUsedUp σ345) fun r351 =>
  if r351 = 1 then
  btn (f_X12_grade σ345 0) fun r354 =>
  if r354 = 2 then
  btn (f_X12_canHandle σ345 0) fun r357 =>
  if r357 = 0 then
  bd2 (f_L_act σ345 4 0 0 0) fun r360 σ361 =>
  if r360 = (-5) then
  btn2 (f_X12_put σ361 1 0) fun r364 σ365 =>
  if r364 = 20 then
  btn (f_X12_usesLeft σ365 0) fun r368 =>
  if r368 = 1 then
  f_Z8 σ365 σ133 r6 r9
  else none
  else none
  else none
  else none
  else none
  else none
  else none
  else none
set_option maxRecDepth 100000 in
def f_Z6 (σ306 σ133 : gM) (r6 r9 : Int32) : Option Unit :=
  bd (f_X12_deliveredCount σ306) fun r309 =>
  if r309 = 2 then
  btn2 (f_X12_comeBack σ306 0) fun r312 σ313 =>
  if r312 = 3 then
  btn2 (f_X12_comeBack σ313 1) fun r316 σ317 =>
  if r316 = 1 then
  bd2 (f_L_act σ317 7 1 0 0) fun r320 σ321 =>
  if r320 = (-3) then
  btn (f_X12_returns σ321 1) fun r324 =>
  if r324 = 1 then
  btn (f_X12_gloveFor σ321 0) fun r327 =>
  if r327 = 1 then
  btn (f_X12_gloveFor σ321 1) fun r330 =>
  if r330 = 0 then
  btn2 (f_X12_takeOut σ321 2) fun r333 σ334 =>
  if r333 = 1 then
  btn (f_X12_usesLeft σ334 1) fun r337 =>
  if r337 = 1 then
  bd2 (f_X12_handleable σ334) fun r340 σ341 =>
  if r340 = 2 then
  f_Z7 σ341 σ133 r6 r9
  else none
  else none
  else none
  else none
  else none
  else none
  else none
  else none
  else none
  else none
set_option maxRecDepth 100000 in
def f_Z5 (σ279 σ133 : gM) (r6 r9 x143 x145 : Int32) : Option Unit :=
  btn2 (f_X12_carry σ279 0 1) fun r282 σ283 =>
  if r282 = 1 then
  btn (f_X12_state σ283 1) fun r286 =>
  if r286 = 100 then
  bd (f_X12_effortSoFar σ283) fun r289 =>
  if r289 = (x143 * (x145 + 20)) then
  btn (f_X12_load σ283 0) fun r292 =>
  if r292 = x145 then
  btn2 (f_X12_carry σ283 0 2) fun r295 σ296 =>
  if r295 = 1 then
  bd (f_X12_effortSoFar σ296) fun r299 =>
  if r299 = ((x143 * (x145 + 20)) + (3 * x145)) then
  btn (f_X12_place σ296 0) fun r302 =>
  if r302 = 2 then
  bd2 (f_L_act σ296 5 0 0 0) fun r305 σ306 =>
  if r305 = (-3) then
  f_Z6 σ306 σ133 r6 r9
  else none
  else none
  else none
  else none
  else none
  else none
  else none
  else none
set_option maxRecDepth 100000 in
def f_Z4 (σ241 σ133 : gM) (r6 r9 x143 x145 : Int32) : Option Unit :=
  btn2 (f_X12_put σ241 0 0) fun r246 σ247 =>
  if r246 = x145 then
  btn (f_X12_usesLeft σ247 0) fun r250 =>
  if r250 = 2 then
  btn2 (f_X12_setCapacity σ247 0 31) fun r253 σ254 =>
  if r253 = 30 then
  btn2 (f_X12_put σ254 1 0) fun r257 σ258 =>
  if r257 = (x145 + 20) then
  btn (f_X12_usesLeft σ258 0) fun r261 =>
  if r261 = 2 then
  btn (f_X12_load σ258 0) fun r264 =>
  if r264 = (x145 + 20) then
  bd2 (f_L_act σ258 4 2 0 0) fun r267 σ268 =>
  if r267 = (-4) then
  btn2 (f_X12_put σ268 2 1) fun r271 σ272 =>
  if r271 = 15 then
  btn (f_X12_usesLeft σ272 1) fun r275 =>
  if r275 = 2 then
  btn2 (f_X12_effortTo σ272 0 2) fun r278 σ279 =>
  if r278 = ((x143 + 3) * (x145 + 20)) then
  f_Z5 σ279 σ133 r6 r9 x143 x145
  else none
  else none
  else none
  else none
  else none
  else none
  else none
  else none
  else none
  else none
set_option maxRecDepth 100000 in
def f_Z3 (σ202 σ133 : gM) (r6 r9 x143 x145 : Int32) : Option Unit :=
  btn2 (f_X12_distance σ202 0 2) fun r205 σ206 =>
  if r205 = (x143 + 3) then
  btn2 (f_X12_distanceByRounds σ206 2 0) fun r209 σ210 =>
  if r209 = (x143 + 3) then
  btn2 (f_X12_farthestPlace σ210 0) fun r213 σ214 =>
  if r213 = 2 then
  btn (f_X12_gloveFor σ214 0) fun r217 =>
  if r217 = 0 then
  btn (f_X12_gloveFor σ214 2) fun r220 =>
  if r220 = 1 then
  bd2 (f_L_act σ214 10 1 0 0) fun r223 σ224 =>
  if r223 = (-4) then
  bd2 (f_X12_handleable σ224) fun r227 σ228 =>
  if r227 = 3 then
  bd (f_X12_handleableByShortage σ228) fun r231 =>
  if r231 = 3 then
  btn (f_X12_mostFitting σ228 0) fun r234 =>
  bd (
    if 30 < (x145 + 15) then
      some 1
    else
      some 2) fun x236 =>
  if r234 = x236 then
  btn2 (f_X12_mostFittingByTable σ228 0) fun r240 σ241 =>
  btn (f_X12_mostFitting σ241 0) fun r243 =>
  if r240 = r243 then
  f_Z4 σ241 σ133 r6 r9 x143 x145
  else none
  else none
  else none
  else none
  else none
  else none
  else none
  else none
  else none
  else none
set_option maxRecDepth 100000 in
def f_Z2 (σ177 σ133 : gM) (r6 r9 x143 x145 : Int32) : Option Unit :=
  gi x143 10 <|
  nm ((([] ++ (gByt.getD 31 [])) ++ [x143 + 48]) ++ (gByt.getD 32 [])) fun t181 =>
  gb (lOkb t181) <|
  bd (f_L_put σ177 t181) fun σ187 =>
  btn2 (f_X12_runCommands σ187) fun r189 σ190 =>
  if r189 = 5 then
  btn2 (f_X12_acceptParcel σ190 x145 2 2) fun r193 σ194 =>
  if r193 = 0 then
  btn2 (f_X12_acceptParcel σ194 20 0 1) fun r197 σ198 =>
  if r197 = 1 then
  btn2 (f_X12_acceptParcel σ198 15 3 2) fun r201 σ202 =>
  if r201 = 2 then
  f_Z3 σ202 σ133 r6 r9 x143 x145
  else none
  else none
  else none
  else none
set_option maxRecDepth 100000 in
def f_Z1 (σ133 : gM) (r6 r9 x143 x145 : Int32) : Option Unit :=
  bd2 (f_X12_isConsistent σ0) fun r147 σ148 =>
  if r147 = 0 then none else
  bd (f_X12_roadCount σ148) fun r151 =>
  if r151 = 0 then
  bd2 (f_X12_handleable σ148) fun r154 σ155 =>
  if r154 = 0 then
  btn (f_X12_mostFitting σ155 2) fun r158 =>
  if r158 = 0 then
  btn2 (f_X12_farthestPlace σ155 3) fun r161 σ162 =>
  if r161 = 3 then
  btn (f_X12_capacity σ162 0) fun r165 =>
  if r165 = 30 then
  bd2 (f_L_act σ162 6 0 0 0) fun r168 σ169 =>
  if r168 = (-2) then
  bd2 (f_L_act σ169 6 0 1 0) fun r172 σ173 =>
  if r172 = (-5) then
  bd2 (f_L_act σ173 4 0 0 0) fun r176 σ177 =>
  if r176 = (-1) then
  f_Z2 σ177 σ133 r6 r9 x143 x145
  else none
  else none
  else none
  else none
  else none
  else none
  else none
  else none
set_option maxRecDepth 100000 in
def f_Z0 (L : Nat) (xs : Nat → Int32) (σ133 : gM) (r6 r9 : Int32) : Option Unit :=
  bd (f_L_at σ133 L xs 13) fun r142 =>
  nm (1 + (r142 &&& 7)) fun x143 =>
  nm (((r142 >>> ((3 : Int32) &&& 31)) &&& 15) - ((r142 >>> ((3 : Int32) &&& 31)) &&& 15) / 10 * 10) fun x144 =>
  nm (2 + x144) fun x145 =>
  f_Z1 σ133 r6 r9 x143 x145
set_option maxRecDepth 100000 in
def f_X3 (L : Nat) (xs : Nat → Int32) (σ83 : gM) (r6 r9 : Int32) : Option Unit :=
  bd2 (f_L_fails σ83 (gByt.getD 20 []) 1) fun r92 σ93 =>
  if r92 = 0 then none else
  bd2 (f_L_fails σ93 (gByt.getD 21 []) 8) fun r96 σ97 =>
  if r96 = 0 then none else
  bd2 (f_L_fails σ97 (gByt.getD 22 []) 6) fun r100 σ101 =>
  if r100 = 0 then none else
  bd2 (f_L_fails σ101 (gByt.getD 23 []) 11) fun r104 σ105 =>
  if r104 = 0 then none else
  bd2 (f_L_fails σ105 (gByt.getD 24 []) 7) fun r108 σ109 =>
  if r108 = 0 then none else
  bd2 (f_L_fails σ109 (gByt.getD 25 []) 0) fun r112 σ113 =>
  if r112 = 0 then none else
  bd2 (f_L_fails σ113 (gByt.getD 26 []) 6) fun r116 σ117 =>
  if r116 = 0 then none else
  bd2 (f_L_fails σ117 (gByt.getD 27 []) 7) fun r120 σ121 =>
  if r120 = 0 then none else
  bd2 (f_L_fails σ121 (gByt.getD 28 []) 1) fun r124 σ125 =>
  if r124 = 0 then none else
  bd2 (f_L_fails σ125 (gByt.getD 29 []) 4) fun r128 σ129 =>
  if r128 = 0 then none else
  bd2 (f_L_fails σ129 (gByt.getD 30 []) 0) fun r132 σ133 =>
  if r132 = 0 then none else
  btn (f_X12_failedCommand σ133) fun r136 =>
  if r136 = 0 then
  bd (f_L_state σ133) fun r139 =>
  if r139 = r9 then
  f_Z0 L xs σ133 r6 r9
  else none
  else none
set_option maxRecDepth 100000 in
def f_X2 (L : Nat) (xs : Nat → Int32) (σ44 : gM) (r6 r9 x13 : Int32) : Option Unit :=
  gi x13 10 <|
  nm ((([] ++ (gByt.getD 16 [])) ++ [x13 + 48]) ++ (gByt.getD 18 [])) fun t62 =>
  gb (lOkb t62) <|
  bd (f_L_put σ44 t62) fun σ68 =>
  bd2 (f_L_runs σ68) fun r70 σ71 =>
  if r70 = (-2) then
  btn (f_X12_failedCommand σ71) fun r74 =>
  if r74 = 1 then
  bd (f_L_state σ71) fun r77 =>
  if r77 = r9 then
  bd (f_L_put σ71 (gByt.getD 19 [])) fun σ80 =>
  bd2 (f_L_runs σ80) fun r82 σ83 =>
  if r82 = (-2) then
  btn (f_X12_failedCommand σ83) fun r86 =>
  if r86 = 0 then
  bd (f_L_state σ83) fun r89 =>
  if r89 = r9 then
  f_X3 L xs σ83 r6 r9
  else none
  else none
  else none
  else none
  else none
  else none
set_option maxRecDepth 100000 in
def f_X1 (L : Nat) (xs : Nat → Int32) : Option Unit :=
  bd (f_L_build L xs) fun σ1 =>
  bd (f_L_build L xs) fun σ3 =>
  bd2 (f_X12_save σ1) fun r6 σ7 =>
  bd (f_L_state σ7) fun r9 =>
  btn (f_X12_place σ7 0) fun r11 =>
  bd (
    if r11 = 1 then
      some 0
    else
      some 1) fun x13 =>
  gi x13 10 <|
  gi (1 - x13) 10 <|
  nm (((([] ++ (gByt.getD 16 [])) ++ [x13 + 48]) ++ (gByt.getD 17 [])) ++ [(1 - x13) + 48]) fun t18 =>
  gb (lOkb t18) <|
  bd (f_L_put σ7 t18) fun σ24 =>
  btn2 (f_X12_runCommands σ24) fun r26 σ27 =>
  if r26 = 2 then
  btn2 (f_X12_carry σ3 0 x13) fun r30 σ31 =>
  if r30 < 0 then none else
  btn2 (f_X12_carry σ31 0 (1 - x13)) fun r34 σ35 =>
  if r34 < 0 then none else
  bd (f_L_state σ27) fun r38 =>
  bd (f_L_state σ35) fun r40 =>
  if r38 = r40 then
  btn2 (f_X12_undo σ27) fun r43 σ44 =>
  if r43 < 0 then none else
  bd (f_L_state σ44) fun r47 =>
  if r47 = r9 then
  btn2 (f_X12_undo σ35) fun r50 σ51 =>
  if r50 < 0 then none else
  btn2 (f_X12_undo σ51) fun r54 σ55 =>
  if r54 < 0 then none else
  bd (f_L_state σ55) fun r58 =>
  if r58 = r9 then
  f_X2 L xs σ44 r6 r9 x13
  else none
  else none
  else none
  else none
set_option maxRecDepth 100000 in
theorem law_eq (L : Nat) (xs : Nat → Int32) : f_law L xs = f_X1 L xs := rfl
