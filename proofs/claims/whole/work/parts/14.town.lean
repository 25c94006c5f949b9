theorem t_38 : (Cond.initialized "SundayMarket$Town") ∈ gtbl := wd 38 (by decide +kernel) (by decide +kernel)
theorem t_75 : (Cond.fieldLink "SundayMarket$Town" 53 "SundayMarket$Goods" "sets" "[I") ∈ gtbl := wd 75 (by decide +kernel) (by decide +kernel)
theorem t_77 : (Cond.fieldLink "SundayMarket$Town" 46 "SundayMarket$Goods" "chalk" "[I") ∈ gtbl := wd 77 (by decide +kernel) (by decide +kernel)
theorem t_82 : (Cond.fieldLink "SundayMarket$Town" 60 "SundayMarket$Goods" "wet" "I") ∈ gtbl := wd 82 (by decide +kernel) (by decide +kernel)
theorem t_85 : (Cond.fieldLink "SundayMarket$Town" 63 "SundayMarket$Goods" "harvest" "I") ∈ gtbl := wd 85 (by decide +kernel) (by decide +kernel)
theorem t_89 : (Cond.fieldLink "SundayMarket$Town" 118 "SundayMarket$Goods" "draw" "I") ∈ gtbl := wd 89 (by decide +kernel) (by decide +kernel)
theorem t_104 : (Cond.fieldLink "SundayMarket$Town" 9 "SundayMarket$Town" "people" "I") ∈ gtbl := wd 104 (by decide +kernel) (by decide +kernel)
theorem t_107 : (Cond.fieldLink "SundayMarket$Town" 15 "SundayMarket$Town" "fewest" "I") ∈ gtbl := wd 107 (by decide +kernel) (by decide +kernel)
theorem t_109 : (Cond.fieldLink "SundayMarket$Town" 18 "SundayMarket$Town" "kinds" "[I") ∈ gtbl := wd 109 (by decide +kernel) (by decide +kernel)
theorem t_111 : (Cond.fieldLink "SundayMarket$Town" 22 "SundayMarket$Town" "loves" "[I") ∈ gtbl := wd 111 (by decide +kernel) (by decide +kernel)
theorem t_114 : (Cond.fieldLink "SundayMarket$Town" 28 "SundayMarket$Town" "goods" "LSundayMarket$Goods;") ∈ gtbl := wd 114 (by decide +kernel) (by decide +kernel)
theorem t_222 : (Cond.instanceMethod yX4_settle) ∈ gtbl := wd 222 (by decide +kernel) (by decide +kernel)
theorem t_223 : (Cond.selects "SundayMarket$Town" yX4_settle yX4_settle) ∈ gtbl := wd 223 (by decide +kernel) (by decide +kernel)
theorem t_224 : (Cond.code yX4_settle prog_6_method_5_code 5 (some .int)) ∈ gtbl := wd 224 (by decide +kernel) (by decide +kernel)
theorem t_225 : (Cond.methodLink "SundayMarket$Town" 49 yX0_setMany) ∈ gtbl := wd 225 (by decide +kernel) (by decide +kernel)
theorem t_234 : (Cond.instanceMethod yX4_isOne) ∈ gtbl := wd 234 (by decide +kernel) (by decide +kernel)
theorem t_235 : (Cond.selects "SundayMarket$Town" yX4_isOne yX4_isOne) ∈ gtbl := wd 235 (by decide +kernel) (by decide +kernel)
theorem t_236 : (Cond.code yX4_isOne prog_6_method_3_code 2 (some .boolean)) ∈ gtbl := wd 236 (by decide +kernel) (by decide +kernel)
theorem t_254 : (Cond.instanceMethod yX4_worthOf) ∈ gtbl := wd 254 (by decide +kernel) (by decide +kernel)
theorem t_255 : (Cond.selects "SundayMarket$Town" yX4_worthOf yX4_worthOf) ∈ gtbl := wd 255 (by decide +kernel) (by decide +kernel)
theorem t_256 : (Cond.code yX4_worthOf prog_6_method_8_code 2 (some .int)) ∈ gtbl := wd 256 (by decide +kernel) (by decide +kernel)
theorem t_257 : (Cond.methodLink "SundayMarket$Town" 70 yX4_worthInRain) ∈ gtbl := wd 257 (by decide +kernel) (by decide +kernel)
theorem t_258 : (Cond.instanceMethod yX4_worthInRain) ∈ gtbl := wd 258 (by decide +kernel) (by decide +kernel)
theorem t_259 : (Cond.selects "SundayMarket$Town" yX4_worthInRain yX4_worthInRain) ∈ gtbl := wd 259 (by decide +kernel) (by decide +kernel)
theorem t_260 : (Cond.code yX4_worthInRain prog_6_method_10_code 7 (some .int)) ∈ gtbl := wd 260 (by decide +kernel) (by decide +kernel)
theorem t_261 : (Cond.methodLink "SundayMarket$Town" 56 yX4_lovedSet) ∈ gtbl := wd 261 (by decide +kernel) (by decide +kernel)
theorem t_262 : (Cond.instanceMethod yX4_lovedSet) ∈ gtbl := wd 262 (by decide +kernel) (by decide +kernel)
theorem t_263 : (Cond.selects "SundayMarket$Town" yX4_lovedSet yX4_lovedSet) ∈ gtbl := wd 263 (by decide +kernel) (by decide +kernel)
theorem t_264 : (Cond.code yX4_lovedSet prog_6_method_6_code 3 (some .int)) ∈ gtbl := wd 264 (by decide +kernel) (by decide +kernel)
theorem t_283 : (Cond.instanceMethod yX4_worthOfHalf) ∈ gtbl := wd 283 (by decide +kernel) (by decide +kernel)
theorem t_284 : (Cond.selects "SundayMarket$Town" yX4_worthOfHalf yX4_worthOfHalf) ∈ gtbl := wd 284 (by decide +kernel) (by decide +kernel)
theorem t_285 : (Cond.code yX4_worthOfHalf prog_6_method_7_code 4 (some .int)) ∈ gtbl := wd 285 (by decide +kernel) (by decide +kernel)
theorem t_306 : (Cond.instanceMethod yX4_copyTown) ∈ gtbl := wd 306 (by decide +kernel) (by decide +kernel)
theorem t_307 : (Cond.selects "SundayMarket$Town" yX4_copyTown yX4_copyTown) ∈ gtbl := wd 307 (by decide +kernel) (by decide +kernel)
theorem t_308 : (Cond.code yX4_copyTown prog_6_method_2_code 2 none) ∈ gtbl := wd 308 (by decide +kernel) (by decide +kernel)
theorem t_309 : (Cond.methodLink "SundayMarket$Town" 32 arraycopyName) ∈ gtbl := wd 309 (by decide +kernel) (by decide +kernel)
theorem t_312 : (Cond.methodLink "SundayMarket$Town" 38 yX0_copyGoods) ∈ gtbl := wd 312 (by decide +kernel) (by decide +kernel)
theorem t_460 : (Cond.instanceMethod yX4_worthOfAll) ∈ gtbl := wd 460 (by decide +kernel) (by decide +kernel)
theorem t_461 : (Cond.selects "SundayMarket$Town" yX4_worthOfAll yX4_worthOfAll) ∈ gtbl := wd 461 (by decide +kernel) (by decide +kernel)
theorem t_462 : (Cond.code yX4_worthOfAll prog_6_method_11_code 3 (some .int)) ∈ gtbl := wd 462 (by decide +kernel) (by decide +kernel)
theorem t_463 : (Cond.methodLink "SundayMarket$Town" 74 yX4_worthOf) ∈ gtbl := wd 463 (by decide +kernel) (by decide +kernel)
theorem t_465 : (Cond.instanceMethod yX4_chalkOfAll) ∈ gtbl := wd 465 (by decide +kernel) (by decide +kernel)
theorem t_466 : (Cond.selects "SundayMarket$Town" yX4_chalkOfAll yX4_chalkOfAll) ∈ gtbl := wd 466 (by decide +kernel) (by decide +kernel)
theorem t_467 : (Cond.code yX4_chalkOfAll prog_6_method_13_code 3 (some .int)) ∈ gtbl := wd 467 (by decide +kernel) (by decide +kernel)
theorem t_473 : (Cond.instanceMethod yX4_areTwo) ∈ gtbl := wd 473 (by decide +kernel) (by decide +kernel)
theorem t_474 : (Cond.selects "SundayMarket$Town" yX4_areTwo yX4_areTwo) ∈ gtbl := wd 474 (by decide +kernel) (by decide +kernel)
theorem t_475 : (Cond.code yX4_areTwo prog_6_method_4_code 3 (some .boolean)) ∈ gtbl := wd 475 (by decide +kernel) (by decide +kernel)
theorem t_476 : (Cond.methodLink "SundayMarket$Town" 42 yX4_isOne) ∈ gtbl := wd 476 (by decide +kernel) (by decide +kernel)
theorem t_478 : (Cond.instanceMethod yX4_maySell) ∈ gtbl := wd 478 (by decide +kernel) (by decide +kernel)
theorem t_479 : (Cond.selects "SundayMarket$Town" yX4_maySell yX4_maySell) ∈ gtbl := wd 479 (by decide +kernel) (by decide +kernel)
theorem t_480 : (Cond.code yX4_maySell prog_6_method_15_code 7 (some .boolean)) ∈ gtbl := wd 480 (by decide +kernel) (by decide +kernel)
theorem t_481 : (Cond.methodLink "SundayMarket$Town" 81 yX0_manyOf) ∈ gtbl := wd 481 (by decide +kernel) (by decide +kernel)
theorem t_482 : (Cond.methodLink "SundayMarket$Town" 84 yJ6_bitCount_0f7a4) ∈ gtbl := wd 482 (by decide +kernel) (by decide +kernel)
theorem t_511 : (Cond.instanceMethod yX4_dearestHalf) ∈ gtbl := wd 511 (by decide +kernel) (by decide +kernel)
theorem t_512 : (Cond.selects "SundayMarket$Town" yX4_dearestHalf yX4_dearestHalf) ∈ gtbl := wd 512 (by decide +kernel) (by decide +kernel)
theorem t_513 : (Cond.code yX4_dearestHalf prog_6_method_14_code 5 (some .int)) ∈ gtbl := wd 513 (by decide +kernel) (by decide +kernel)
theorem t_514 : (Cond.methodLink "SundayMarket$Town" 78 yX4_worthOfHalf) ∈ gtbl := wd 514 (by decide +kernel) (by decide +kernel)
theorem t_528 : (Cond.instanceMethod yX4_driftOnce) ∈ gtbl := wd 528 (by decide +kernel) (by decide +kernel)
theorem t_529 : (Cond.selects "SundayMarket$Town" yX4_driftOnce yX4_driftOnce) ∈ gtbl := wd 529 (by decide +kernel) (by decide +kernel)
theorem t_530 : (Cond.code yX4_driftOnce prog_6_method_20_code 5 none) ∈ gtbl := wd 530 (by decide +kernel) (by decide +kernel)
theorem t_531 : (Cond.constant "SundayMarket$Town" 121 (1103515245)) ∈ gtbl := wd 531 (by decide +kernel) (by decide +kernel)
theorem t_532 : (Cond.constant "SundayMarket$Town" 122 (2147483647)) ∈ gtbl := wd 532 (by decide +kernel) (by decide +kernel)
theorem t_533 : (Cond.constant "SundayMarket$Town" 123 (65536)) ∈ gtbl := wd 533 (by decide +kernel) (by decide +kernel)
theorem t_534 : (Cond.methodLink "SundayMarket$Town" 124 yX4_middleOfSale) ∈ gtbl := wd 534 (by decide +kernel) (by decide +kernel)
theorem t_535 : (Cond.instanceMethod yX4_middleOfSale) ∈ gtbl := wd 535 (by decide +kernel) (by decide +kernel)
theorem t_536 : (Cond.selects "SundayMarket$Town" yX4_middleOfSale yX4_middleOfSale) ∈ gtbl := wd 536 (by decide +kernel) (by decide +kernel)
theorem t_537 : (Cond.code yX4_middleOfSale prog_6_method_17_code 8 (some .int)) ∈ gtbl := wd 537 (by decide +kernel) (by decide +kernel)
theorem t_538 : (Cond.methodLink "SundayMarket$Town" 92 yX0_move) ∈ gtbl := wd 538 (by decide +kernel) (by decide +kernel)
theorem t_539 : (Cond.methodLink "SundayMarket$Town" 95 yJ9_max_7cf53) ∈ gtbl := wd 539 (by decide +kernel) (by decide +kernel)
theorem t_540 : (Cond.methodLink "SundayMarket$Town" 114 yX4_maySell) ∈ gtbl := wd 540 (by decide +kernel) (by decide +kernel)
theorem t_541 : (Cond.methodLink "SundayMarket$Town" 127 yX0_pay) ∈ gtbl := wd 541 (by decide +kernel) (by decide +kernel)
theorem t_559 : (Cond.instanceMethod yX4_gainOfSale) ∈ gtbl := wd 559 (by decide +kernel) (by decide +kernel)
theorem t_560 : (Cond.selects "SundayMarket$Town" yX4_gainOfSale yX4_gainOfSale) ∈ gtbl := wd 560 (by decide +kernel) (by decide +kernel)
theorem t_561 : (Cond.code yX4_gainOfSale prog_6_method_16_code 6 (some .int)) ∈ gtbl := wd 561 (by decide +kernel) (by decide +kernel)
theorem t_562 : (Cond.methodLink "SundayMarket$Town" 89 yX4_worthOfAllOn) ∈ gtbl := wd 562 (by decide +kernel) (by decide +kernel)
theorem t_563 : (Cond.instanceMethod yX4_worthOfAllOn) ∈ gtbl := wd 563 (by decide +kernel) (by decide +kernel)
theorem t_564 : (Cond.selects "SundayMarket$Town" yX4_worthOfAllOn yX4_worthOfAllOn) ∈ gtbl := wd 564 (by decide +kernel) (by decide +kernel)
theorem t_565 : (Cond.code yX4_worthOfAllOn prog_6_method_12_code 4 (some .int)) ∈ gtbl := wd 565 (by decide +kernel) (by decide +kernel)
theorem t_576 : (Cond.instanceMethod yX4_bestSale) ∈ gtbl := wd 576 (by decide +kernel) (by decide +kernel)
theorem t_577 : (Cond.selects "SundayMarket$Town" yX4_bestSale yX4_bestSale) ∈ gtbl := wd 577 (by decide +kernel) (by decide +kernel)
theorem t_578 : (Cond.code yX4_bestSale prog_6_method_18_code 7 (some .int)) ∈ gtbl := wd 578 (by decide +kernel) (by decide +kernel)
theorem t_579 : (Cond.methodLink "SundayMarket$Town" 100 yX4_mightGain) ∈ gtbl := wd 579 (by decide +kernel) (by decide +kernel)
theorem t_580 : (Cond.instanceMethod yX4_mightGain) ∈ gtbl := wd 580 (by decide +kernel) (by decide +kernel)
theorem t_581 : (Cond.selects "SundayMarket$Town" yX4_mightGain yX4_mightGain) ∈ gtbl := wd 581 (by decide +kernel) (by decide +kernel)
theorem t_582 : (Cond.code yX4_mightGain prog_6_method_19_code 4 (some .boolean)) ∈ gtbl := wd 582 (by decide +kernel) (by decide +kernel)
theorem t_584 : (Cond.methodLink "SundayMarket$Town" 104 yX4_gainOfSale) ∈ gtbl := wd 584 (by decide +kernel) (by decide +kernel)
theorem t_619 : (Cond.instanceMethod yX4_worthOfSet) ∈ gtbl := wd 619 (by decide +kernel) (by decide +kernel)
theorem t_620 : (Cond.selects "SundayMarket$Town" yX4_worthOfSet yX4_worthOfSet) ∈ gtbl := wd 620 (by decide +kernel) (by decide +kernel)
theorem t_621 : (Cond.code yX4_worthOfSet prog_6_method_9_code 3 (some .int)) ∈ gtbl := wd 621 (by decide +kernel) (by decide +kernel)
theorem t_639 : (Cond.instanceMethod yX4_weightOfRain) ∈ gtbl := wd 639 (by decide +kernel) (by decide +kernel)
theorem t_640 : (Cond.selects "SundayMarket$Town" yX4_weightOfRain yX4_weightOfRain) ∈ gtbl := wd 640 (by decide +kernel) (by decide +kernel)
theorem t_641 : (Cond.code yX4_weightOfRain prog_6_method_21_code 9 (some .int)) ∈ gtbl := wd 641 (by decide +kernel) (by decide +kernel)
def fX4_isOne (t_people : Int32) (i1 : Int32) : Option (Int32) :=
  if i1 < 0 then
    some (0)
  else
    if t_people ≤ i1 then
      some (0)
    else
      some (1)
def fX4_areTwo (t_people : Int32) (i1 : Int32) (i2 : Int32) : Option (Int32) :=
  bd1 (fX4_isOne t_people i1) fun r1 =>
  if r1 = 0 then
    some (0)
  else
    bd1 (fX4_isOne t_people i2) fun r4 =>
    if r4 = 0 then
      some (0)
    else
      if i1 = i2 then
        some (0)
      else
        some (1)
def fX4_settle_L54 (t_people : Int32) : Nat → Int32 → (Nat → Int32) → (Nat → Int32) → Option ((Nat → Int32) × (Nat → Int32))
  | 0, _, _, _ => none
  | n + 1, v15, g16, g17 =>
    if 12 ≤ v15 then
      some (g16, g17)
    else
      bd2 (fX0_setMany g16 g17 t_people v15 1) fun f24 f25 =>
      fX4_settle_L54 t_people n (v15 + 1) f24 f25
def fX4_settle (t_people : Int32) (t_kinds : Nat → Int32) (t_loves : Nat → Int32) (g_many : Nat → Int32) (g_sets : Nat → Int32) (g_chalk : Nat → Int32) (i1 : Int32) (i2 : Int32) : Option (Int32 × Int32 × (Nat → Int32) × (Nat → Int32) × (Nat → Int32) × (Nat → Int32) × (Nat → Int32)) :=
  if t_people < 6 then
    bd1 (ix t_people 6) fun j2 =>
    bd2 (fX4_settle_L54 t_people fl 0 g_many g_sets) fun q21 q22 =>
    some (t_people, (t_people + 1), (upd t_kinds j2 i1), (upd t_loves j2 t_people), q21, q22, (upd g_chalk j2 i2))
  else
    some ((-3), t_people, t_kinds, t_loves, g_many, g_sets, g_chalk)
def fX4_lovedSet (g_sets : Nat → Int32) (i1 : Int32) (i2 : Int32) : Option (Int32) :=
  if i2 = i1 then
    some (0)
  else
    bd1 (ix i2 6) fun j2 =>
    some ((g_sets j2))
def fX4_worthOfHalf (t_kinds : Nat → Int32) (t_loves : Nat → Int32) (g_sets : Nat → Int32) (g_wet : Int32) (g_harvest : Int32) (i1 : Int32) (i2 : Int32) : Option (Int32) :=
  bd1 (ix i1 6) fun j1 =>
  bd1 (fX4_lovedSet g_sets i1 (t_loves j1)) fun r3 =>
  bd1 (fX5_worthByKind (t_kinds j1) i2 (g_sets j1) r3 g_wet g_harvest) fun r5 =>
  some (r5)
def fX4_worthInRain_L19 (g_harvest : Int32) (i1 : Int32) (i2 : Int32) (i3 : Int32) (t_kinds : Nat → Int32) (r3 : Int32) : Nat → Int32 → Int32 → Option (Int32)
  | 0, _, _ => none
  | n + 1, v17, v18 =>
    if 12 ≤ v18 then
      some (v17)
    else
      bd1 (ix i1 6) fun j24 =>
      bd1 (fX5_worthByKind (t_kinds j24) v18 i2 r3 i3 g_harvest) fun r26 =>
      fX4_worthInRain_L19 g_harvest i1 i2 i3 t_kinds r3 n (v17 + r26) (v18 + 1)
def fX4_worthInRain (t_kinds : Nat → Int32) (t_loves : Nat → Int32) (g_sets : Nat → Int32) (g_harvest : Int32) (i1 : Int32) (i2 : Int32) (i3 : Int32) : Option (Int32) :=
  bd1 (ix i1 6) fun j1 =>
  bd1 (fX4_lovedSet g_sets i1 (t_loves j1)) fun r3 =>
  bd1 (fX4_worthInRain_L19 g_harvest i1 i2 i3 t_kinds r3 fl 0 0) fun o22 =>
  some (o22)
def fX4_worthOf (t_kinds : Nat → Int32) (t_loves : Nat → Int32) (g_sets : Nat → Int32) (g_wet : Int32) (g_harvest : Int32) (i1 : Int32) : Option (Int32) :=
  bd1 (ix i1 6) fun j1 =>
  bd1 (fX4_worthInRain t_kinds t_loves g_sets g_harvest i1 (g_sets j1) g_wet) fun r3 =>
  some (r3)
def fX4_worthOfSet (t_kinds : Nat → Int32) (t_loves : Nat → Int32) (g_sets : Nat → Int32) (g_wet : Int32) (g_harvest : Int32) (i1 : Int32) (i2 : Int32) : Option (Int32) :=
  bd1 (fX4_worthInRain t_kinds t_loves g_sets g_harvest i1 i2 g_wet) fun r1 =>
  some (r1)
def fX4_worthOfAll_L4 (g_harvest : Int32) (g_sets : Nat → Int32) (g_wet : Int32) (t_kinds : Nat → Int32) (t_loves : Nat → Int32) (t_people : Int32) : Nat → Int32 → Int32 → Option (Int32)
  | 0, _, _ => none
  | n + 1, v9, v10 =>
    if t_people ≤ v10 then
      some (v9)
    else
      bd1 (fX4_worthOf t_kinds t_loves g_sets g_wet g_harvest v10) fun r16 =>
      fX4_worthOfAll_L4 g_harvest g_sets g_wet t_kinds t_loves t_people n (v9 + r16) (v10 + 1)
def fX4_worthOfAll (t_people : Int32) (t_kinds : Nat → Int32) (t_loves : Nat → Int32) (g_sets : Nat → Int32) (g_wet : Int32) (g_harvest : Int32) : Option (Int32) :=
  bd1 (fX4_worthOfAll_L4 g_harvest g_sets g_wet t_kinds t_loves t_people fl 0 0) fun o14 =>
  some (o14)
def fX4_worthOfAllOn_L4 (g_harvest : Int32) (g_sets : Nat → Int32) (g_wet : Int32) (i1 : Int32) (t_kinds : Nat → Int32) (t_loves : Nat → Int32) (t_people : Int32) : Nat → Int32 → Int32 → Option (Int32)
  | 0, _, _ => none
  | n + 1, v13, v14 =>
    if t_people ≤ v14 then
      some (v13)
    else
      bd1 (fX4_worthOfHalf t_kinds t_loves g_sets g_wet g_harvest v14 (2 * i1)) fun r20 =>
      bd1 (fX4_worthOfHalf t_kinds t_loves g_sets g_wet g_harvest v14 ((2 * i1) + 1)) fun r22 =>
      fX4_worthOfAllOn_L4 g_harvest g_sets g_wet i1 t_kinds t_loves t_people n (v13 + (r20 + r22)) (v14 + 1)
def fX4_worthOfAllOn (t_people : Int32) (t_kinds : Nat → Int32) (t_loves : Nat → Int32) (g_sets : Nat → Int32) (g_wet : Int32) (g_harvest : Int32) (i1 : Int32) : Option (Int32) :=
  bd1 (fX4_worthOfAllOn_L4 g_harvest g_sets g_wet i1 t_kinds t_loves t_people fl 0 0) fun o18 =>
  some (o18)
def fX4_chalkOfAll_L4 (g_chalk : Nat → Int32) (t_people : Int32) : Nat → Int32 → Int32 → Option (Int32)
  | 0, _, _ => none
  | n + 1, v9, v10 =>
    if t_people ≤ v10 then
      some (v9)
    else
      bd1 (ix v10 6) fun j16 =>
      fX4_chalkOfAll_L4 g_chalk t_people n (v9 + (g_chalk j16)) (v10 + 1)
def fX4_chalkOfAll (t_people : Int32) (g_chalk : Nat → Int32) : Option (Int32) :=
  bd1 (fX4_chalkOfAll_L4 g_chalk t_people fl 0 0) fun o14 =>
  some (o14)
def fX4_dearestHalf_L8 (g_harvest : Int32) (g_many : Nat → Int32) (g_sets : Nat → Int32) (g_wet : Int32) (i1 : Int32) (t_kinds : Nat → Int32) (t_loves : Nat → Int32) : Nat → Int32 → Int32 → Int32 → Option (Int32)
  | 0, _, _, _ => none
  | n + 1, v40, v41, v42 =>
    if 12 ≤ v42 then
      some (v40)
    else
      bd1 (fX0_manyOf g_many i1 v42) fun r48 =>
      bd2 (if r48 ≤ 0 then
          some (v40, v41)
        else
          bd1 (fX4_worthOfHalf t_kinds t_loves g_sets g_wet g_harvest i1 v42) fun r60 =>
          if r60 ≤ v41 then
            some (v40, v41)
          else
            bd1 (fX4_worthOfHalf t_kinds t_loves g_sets g_wet g_harvest i1 v42) fun r63 =>
            some (v42, r63)
        : Option (Int32 × Int32)) fun x56 x57 =>
      fX4_dearestHalf_L8 g_harvest g_many g_sets g_wet i1 t_kinds t_loves n x56 x57 (v42 + 1)
def fX4_dearestHalf (t_kinds : Nat → Int32) (t_loves : Nat → Int32) (g_many : Nat → Int32) (g_sets : Nat → Int32) (g_wet : Int32) (g_harvest : Int32) (i1 : Int32) : Option (Int32) :=
  bd1 (fX4_dearestHalf_L8 g_harvest g_many g_sets g_wet i1 t_kinds t_loves fl (-4) (-1) 0) fun o46 =>
  some (o46)
def fX4_maySell (t_fewest : Int32) (g_many : Nat → Int32) (g_sets : Nat → Int32) (g_chalk : Nat → Int32) (i1 : Int32) (i2 : Int32) (i3 : Int32) (i4 : Int32) : Option (Int32) :=
  bd1 (fX0_manyOf g_many i1 i3) fun r1 =>
  bd1 (if 1 < r1 then
      some (1)
    else
      bd1 (ix i1 6) fun j12 =>
      bd1 (fJ6_bitCount_0f7a4 (g_sets j12)) fun r14 =>
      if r14 ≤ t_fewest then
        some (0)
      else
        some (1)
    : Option Int32) fun x9 =>
  if r1 ≤ 0 then
    some (0)
  else
    if x9 = 0 then
      some (0)
    else
      bd1 (ix i2 6) fun j19 =>
      if (g_chalk j19) < i4 then
        some (0)
      else
        some (1)
def fX4_gainOfSale (t_people : Int32) (t_kinds : Nat → Int32) (t_loves : Nat → Int32) (g_many : Nat → Int32) (g_sets : Nat → Int32) (g_wet : Int32) (g_harvest : Int32) (i1 : Int32) (i2 : Int32) (i3 : Int32) : Option (Int32 × (Nat → Int32) × (Nat → Int32)) :=
  bd1 (fX4_worthOfAllOn t_people t_kinds t_loves g_sets g_wet g_harvest (i3 / 2)) fun r1 =>
  bd2 (fX0_move g_many g_sets i1 i2 i3) fun f3 f4 =>
  bd1 (fX4_worthOfAllOn t_people t_kinds t_loves f4 g_wet g_harvest (i3 / 2)) fun r6 =>
  bd2 (fX0_move f3 f4 i2 i1 i3) fun f8 f9 =>
  some ((r6 - r1), f8, f9)
def fX4_middleOfSale (t_kinds : Nat → Int32) (t_loves : Nat → Int32) (g_many : Nat → Int32) (g_sets : Nat → Int32) (g_wet : Int32) (g_harvest : Int32) (i1 : Int32) (i2 : Int32) (i3 : Int32) : Option (Int32 × (Nat → Int32) × (Nat → Int32)) :=
  bd1 (fX4_worthOf t_kinds t_loves g_sets g_wet g_harvest i1) fun r1 =>
  bd1 (fX4_worthOf t_kinds t_loves g_sets g_wet g_harvest i2) fun r3 =>
  bd2 (fX0_move g_many g_sets i1 i2 i3) fun f5 f6 =>
  bd1 (fX4_worthOf t_kinds t_loves f6 g_wet g_harvest i1) fun r8 =>
  bd1 (fX4_worthOf t_kinds t_loves f6 g_wet g_harvest i2) fun r10 =>
  bd2 (fX0_move f5 f6 i2 i1 i3) fun f12 f13 =>
  some ((if 0 < (((r1 - r8) + (r10 - r3)) / 2) then (((r1 - r8) + (r10 - r3)) / 2) else 0), f12, f13)
def fX4_mightGain (t_fewest : Int32) (g_many : Nat → Int32) (g_sets : Nat → Int32) (g_chalk : Nat → Int32) (i1 : Int32) (i2 : Int32) (i3 : Int32) : Option (Int32) :=
  if i1 = i2 then
    some (0)
  else
    bd1 (ix i2 6) fun j2 =>
    bd1 (fX5_isIn (g_sets j2) i3) fun r4 =>
    if r4 = 0 then
      bd1 (fX4_maySell t_fewest g_many g_sets g_chalk i1 i2 i3 0) fun r7 =>
      if r7 = 0 then
        some (0)
      else
        some (1)
    else
      some (0)
def fX4_bestSale_L30 (g_chalk : Nat → Int32) (g_harvest : Int32) (g_wet : Int32) (t_fewest : Int32) (t_kinds : Nat → Int32) (t_loves : Nat → Int32) (t_people : Int32) (v620 : Int32) (v829 : Int32) : Nat → Int32 → Int32 → Int32 → (Nat → Int32) → (Nat → Int32) → Option ((Nat → Int32) × (Nat → Int32) × Int32 × Int32)
  | 0, _, _, _, _, _ => none
  | n + 1, v897, v898, v899, g900, g901 =>
    if 12 ≤ v899 then
      some (g900, g901, v897, v898)
    else
      bd1 (fX4_mightGain t_fewest g900 g901 g_chalk v620 v829 v899) fun r910 =>
      bd3 (if r910 = 0 then
          some (g900, g901, 0)
        else
          bd3 (fX4_gainOfSale t_people t_kinds t_loves g900 g901 g_wet g_harvest v620 v829 v899) fun r922 f923 f924 =>
          some (f923, f924, r922)
        : Option ((Nat → Int32) × (Nat → Int32) × Int32)) fun f917 f918 x919 =>
      bd2 (if x919 ≤ v898 then
          some (v897, v898)
        else
          bd1 (fX5_saleOf v620 v829 v899) fun r933 =>
          some (r933, x919)
        : Option (Int32 × Int32)) fun x929 x930 =>
      fX4_bestSale_L30 g_chalk g_harvest g_wet t_fewest t_kinds t_loves t_people v620 v829 n x929 x930 (v899 + 1) f917 f918
def fX4_bestSale_L18 (g_chalk : Nat → Int32) (g_harvest : Int32) (g_wet : Int32) (t_fewest : Int32) (t_kinds : Nat → Int32) (t_loves : Nat → Int32) (t_people : Int32) (v620 : Int32) : Nat → Int32 → Int32 → Int32 → (Nat → Int32) → (Nat → Int32) → Option ((Nat → Int32) × (Nat → Int32) × Int32 × Int32)
  | 0, _, _, _, _, _ => none
  | n + 1, v827, v828, v829, g830, g831 =>
    if t_people ≤ v829 then
      some (g830, g831, v827, v828)
    else
      bd4 (fX4_bestSale_L30 g_chalk g_harvest g_wet t_fewest t_kinds t_loves t_people v620 v829 fl v827 v828 0 g830 g831) fun q905 q906 o907 o908 =>
      fX4_bestSale_L18 g_chalk g_harvest g_wet t_fewest t_kinds t_loves t_people v620 n o907 o908 (v829 + 1) q905 q906
def fX4_bestSale_L7 (g_chalk : Nat → Int32) (g_harvest : Int32) (g_wet : Int32) (t_fewest : Int32) (t_kinds : Nat → Int32) (t_loves : Nat → Int32) (t_people : Int32) : Nat → Int32 → Int32 → Int32 → (Nat → Int32) → (Nat → Int32) → Option ((Nat → Int32) × (Nat → Int32) × Int32)
  | 0, _, _, _, _, _ => none
  | n + 1, v618, v619, v620, g621, g622 =>
    if t_people ≤ v620 then
      some (g621, g622, v618)
    else
      bd4 (fX4_bestSale_L18 g_chalk g_harvest g_wet t_fewest t_kinds t_loves t_people v620 fl v618 v619 0 g621 g622) fun q835 q836 o837 o838 =>
      fX4_bestSale_L7 g_chalk g_harvest g_wet t_fewest t_kinds t_loves t_people n o837 o838 (v620 + 1) q835 q836
def fX4_bestSale (t_people : Int32) (t_fewest : Int32) (t_kinds : Nat → Int32) (t_loves : Nat → Int32) (g_many : Nat → Int32) (g_sets : Nat → Int32) (g_chalk : Nat → Int32) (g_wet : Int32) (g_harvest : Int32) : Option (Int32 × (Nat → Int32) × (Nat → Int32)) :=
  bd3 (fX4_bestSale_L7 g_chalk g_harvest g_wet t_fewest t_kinds t_loves t_people fl (-4) 0 0 g_many g_sets) fun q626 q627 o628 =>
  some (o628, q626, q627)
def fX4_driftOnce (t_people : Int32) (t_fewest : Int32) (t_kinds : Nat → Int32) (t_loves : Nat → Int32) (g_many : Nat → Int32) (g_sets : Nat → Int32) (g_chalk : Nat → Int32) (g_wet : Int32) (g_harvest : Int32) (g_draw : Int32) : Option ((Nat → Int32) × (Nat → Int32) × (Nat → Int32) × Int32) :=
  if t_people = 0 then
    some (g_many, g_sets, g_chalk, (((g_draw * 1103515245) + 12345) &&& 2147483647))
  else
    bd0 (nz t_people) <|
    bd0 (nz t_people) <|
    if (((((g_draw * 1103515245) + 12345) &&& 2147483647) / 65536) - ((((g_draw * 1103515245) + 12345) &&& 2147483647) / 65536) / t_people * t_people) = (((((g_draw * 1103515245) + 12345) &&& 2147483647) / 1024) - ((((g_draw * 1103515245) + 12345) &&& 2147483647) / 1024) / t_people * t_people) then
      some (g_many, g_sets, g_chalk, (((g_draw * 1103515245) + 12345) &&& 2147483647))
    else
      bd1 (fX0_manyOf g_many (((((g_draw * 1103515245) + 12345) &&& 2147483647) / 65536) - ((((g_draw * 1103515245) + 12345) &&& 2147483647) / 65536) / t_people * t_people) (((((g_draw * 1103515245) + 12345) &&& 2147483647) / 128) - ((((g_draw * 1103515245) + 12345) &&& 2147483647) / 128) / 12 * 12)) fun r5 =>
      if r5 = 0 then
        some (g_many, g_sets, g_chalk, (((g_draw * 1103515245) + 12345) &&& 2147483647))
      else
        bd3 (fX4_middleOfSale t_kinds t_loves g_many g_sets g_wet g_harvest (((((g_draw * 1103515245) + 12345) &&& 2147483647) / 65536) - ((((g_draw * 1103515245) + 12345) &&& 2147483647) / 65536) / t_people * t_people) (((((g_draw * 1103515245) + 12345) &&& 2147483647) / 1024) - ((((g_draw * 1103515245) + 12345) &&& 2147483647) / 1024) / t_people * t_people) (((((g_draw * 1103515245) + 12345) &&& 2147483647) / 128) - ((((g_draw * 1103515245) + 12345) &&& 2147483647) / 128) / 12 * 12)) fun r8 f9 f10 =>
        bd1 (fX4_maySell t_fewest f9 f10 g_chalk (((((g_draw * 1103515245) + 12345) &&& 2147483647) / 65536) - ((((g_draw * 1103515245) + 12345) &&& 2147483647) / 65536) / t_people * t_people) (((((g_draw * 1103515245) + 12345) &&& 2147483647) / 1024) - ((((g_draw * 1103515245) + 12345) &&& 2147483647) / 1024) / t_people * t_people) (((((g_draw * 1103515245) + 12345) &&& 2147483647) / 128) - ((((g_draw * 1103515245) + 12345) &&& 2147483647) / 128) / 12 * 12) r8) fun r12 =>
        if r12 = 0 then
          some (f9, f10, g_chalk, (((g_draw * 1103515245) + 12345) &&& 2147483647))
        else
          bd2 (fX0_move f9 f10 (((((g_draw * 1103515245) + 12345) &&& 2147483647) / 65536) - ((((g_draw * 1103515245) + 12345) &&& 2147483647) / 65536) / t_people * t_people) (((((g_draw * 1103515245) + 12345) &&& 2147483647) / 1024) - ((((g_draw * 1103515245) + 12345) &&& 2147483647) / 1024) / t_people * t_people) (((((g_draw * 1103515245) + 12345) &&& 2147483647) / 128) - ((((g_draw * 1103515245) + 12345) &&& 2147483647) / 128) / 12 * 12)) fun f15 f16 =>
          bd1 (fX0_pay g_chalk (((((g_draw * 1103515245) + 12345) &&& 2147483647) / 1024) - ((((g_draw * 1103515245) + 12345) &&& 2147483647) / 1024) / t_people * t_people) (((((g_draw * 1103515245) + 12345) &&& 2147483647) / 65536) - ((((g_draw * 1103515245) + 12345) &&& 2147483647) / 65536) / t_people * t_people) r8) fun f18 =>
          some (f15, f16, f18, (((g_draw * 1103515245) + 12345) &&& 2147483647))
def fX4_weightOfRain_L20 (g_harvest : Int32) (g_sets : Nat → Int32) (g_wet : Int32) (i1 : Int32) (i2 : Int32) (i3 : Int32) (t_kinds : Nat → Int32) (t_loves : Nat → Int32) : Nat → Int32 → Int32 → Option (Int32)
  | 0, _, _ => none
  | n + 1, v73, v74 =>
    if 63 < v74 then
      some (v73)
    else
      bd1 (if (v74 &&& ((63 &&& (g_wet ^^^ (-1))) ^^^ (-1))) = 0 then
          some (1)
        else
          some (0)
        : Option Int32) fun x81 =>
      bd1 (if x81 = 0 then
          some (v73)
        else
          bd1 (ix i1 6) fun j101 =>
          bd1 (fX4_worthInRain t_kinds t_loves g_sets g_harvest i1 (g_sets j101) (g_wet ||| v74)) fun r103 =>
          if r103 < i2 then
            some (v73)
          else
            bd1 (fJ6_bitCount_0f7a4 v74) fun r106 =>
            bd1 (fX5_power i3 r106) fun r108 =>
            bd1 (fJ6_bitCount_0f7a4 ((63 &&& (g_wet ^^^ (-1))) &&& (v74 ^^^ (-1)))) fun r110 =>
            bd1 (fX5_power (10 - i3) r110) fun r112 =>
            some ((v73 + (r108 * r112)))
        : Option Int32) fun x98 =>
      fX4_weightOfRain_L20 g_harvest g_sets g_wet i1 i2 i3 t_kinds t_loves n x98 (v74 + 1)
def fX4_weightOfRain (t_kinds : Nat → Int32) (t_loves : Nat → Int32) (g_sets : Nat → Int32) (g_wet : Int32) (g_harvest : Int32) (i1 : Int32) (i2 : Int32) (i3 : Int32) : Option (Int32) :=
  bd1 (fX4_weightOfRain_L20 g_harvest g_sets g_wet i1 i2 i3 t_kinds t_loves fl 0 0) fun o78 =>
  some (o78)
def fX4_copyTown (t_kinds : Nat → Int32) (t_loves : Nat → Int32) (g_many : Nat → Int32) (g_sets : Nat → Int32) (g_chalk : Nat → Int32) (u_people : Int32) (u_fewest : Int32) (u_kinds : Nat → Int32) (u_loves : Nat → Int32) (v_many : Nat → Int32) (v_sets : Nat → Int32) (v_chalk : Nat → Int32) (v_wet : Int32) (v_harvest : Int32) (v_draw : Int32) : Option (Int32 × Int32 × (Nat → Int32) × (Nat → Int32) × (Nat → Int32) × (Nat → Int32) × (Nat → Int32) × Int32 × Int32 × Int32) :=
  bd6 (fX0_copyGoods g_many g_sets g_chalk v_many v_sets v_chalk v_wet v_harvest v_draw) fun f1 f2 f3 x4 x5 x6 =>
  some (u_people, u_fewest, (va_cpy u_kinds t_kinds 0 0 6), (va_cpy u_loves t_loves 0 0 6), f1, f2, f3, x4, x5, x6)
theorem cal_X4_isOne : CalV yX4_isOne cX4_isOne 2 (some .boolean) RX4 1 := ⟨t_236, t_234, t_235, t_38, by decide +kernel⟩
set_option maxHeartbeats 4000000 in
set_option maxRecDepth 100000 in
theorem cX4_isOne_ok (l : Launch) (d : va_G) (cy : Nat → ClassId) (t0 t1 t2 g0 g1 g2 g3 : Nat) (t_people : Int32) (t_fewest : Int32) (t_kinds : Nat → Int32) (t_loves : Nat → Int32) (g_many : Nat → Int32) (g_sets : Nat → Int32) (g_chalk : Nat → Int32) (g_wet : Int32) (g_harvest : Int32) (g_draw : Int32) (i1 : Int32) (r : Int32) (h0 : fX4_isOne t_people i1 = some (r)) : CI l yX4_isOne cX4_isOne 2 (some .boolean) 0 0 d cy [.ref t0, .int i1] (List.flatten [wT cy t0 t1 t2 g0 t_people t_fewest t_kinds t_loves, wG cy g0 g1 g2 g3 g_many g_sets g_chalk g_wet g_harvest g_draw]) (List.flatten [wT cy t0 t1 t2 g0 t_people t_fewest t_kinds t_loves, wG cy g0 g1 g2 g3 g_many g_sets g_chalk g_wet g_harvest g_draw]) r := by
  refine CZ.of (by decide) (Nat.le_of_ble_eq_true rfl) ?_
  intro p e s m args below meth c A ls Q F hret hw hl
  have hx := F.1
  have hb := F.2.1
  have hl : lv_has ls 2 [(0, .ref t0), (1, .int i1)] := hl
  rw [fX4_isOne] at h0
  refine lv_iload_n hx hb dX4_isOne_0 rfl (lv_at hl 1 rfl) ?_
  refine lv_if_lt (tgt := 16) hx hb dX4_isOne_1 (by decide) (fun c1 => ?_) (fun c1 => ?_)
  · rw [if_pos c1] at h0
    refine lv_iconst (v := 0) hx hb dX4_isOne_16 (by decide) ?_
    obtain rfl := inj1 h0
    exact hret _ _ _ _ rfl hw dX4_isOne_17
  · rw [if_neg c1] at h0
    refine lv_iload_n hx hb dX4_isOne_4 rfl (lv_at hl 1 rfl) ?_
    refine lv_aload_n hx hb dX4_isOne_5 rfl (lv_at hl 0 rfl) ?_
    refine g_get F inG4 hw 0 rfl rfl 0 (by decide) t_104 (fun _ h9 => h9) rfl dX4_isOne_6 ?_
    refine lv_icmp_ge (tgt := 16) hx hb dX4_isOne_9 (by decide) (fun c2 => ?_) (fun c2 => ?_)
    · rw [if_pos c2] at h0
      refine lv_iconst (v := 0) hx hb dX4_isOne_16 (by decide) ?_
      obtain rfl := inj1 h0
      exact hret _ _ _ _ rfl hw dX4_isOne_17
    · rw [if_neg c2] at h0
      refine lv_iconst (v := 1) hx hb dX4_isOne_12 (by decide) ?_
      refine lv_goto (tgt := 17) hx hb dX4_isOne_13 (by decide) ?_
      obtain rfl := inj1 h0
      exact hret _ _ _ _ rfl hw dX4_isOne_17
theorem cal_X4_areTwo : CalV yX4_areTwo cX4_areTwo 3 (some .boolean) RX4 2 := ⟨t_475, t_473, t_474, t_38, by decide +kernel⟩
set_option maxHeartbeats 4000000 in
set_option maxRecDepth 100000 in
theorem cX4_areTwo_ok (l : Launch) (d : va_G) (cy : Nat → ClassId) (t0 t1 t2 g0 g1 g2 g3 : Nat) (t_people : Int32) (t_fewest : Int32) (t_kinds : Nat → Int32) (t_loves : Nat → Int32) (g_many : Nat → Int32) (g_sets : Nat → Int32) (g_chalk : Nat → Int32) (g_wet : Int32) (g_harvest : Int32) (g_draw : Int32) (i1 : Int32) (i2 : Int32) (r : Int32) (h0 : fX4_areTwo t_people i1 i2 = some (r)) : CI l yX4_areTwo cX4_areTwo 3 (some .boolean) 1 21 d cy [.ref t0, .int i1, .int i2] (List.flatten [wT cy t0 t1 t2 g0 t_people t_fewest t_kinds t_loves, wG cy g0 g1 g2 g3 g_many g_sets g_chalk g_wet g_harvest g_draw]) (List.flatten [wT cy t0 t1 t2 g0 t_people t_fewest t_kinds t_loves, wG cy g0 g1 g2 g3 g_many g_sets g_chalk g_wet g_harvest g_draw]) r := by
  refine CZ.of (by decide) (Nat.le_of_ble_eq_true rfl) ?_
  intro p e s m args below meth c A ls Q F hret hw hl
  have hx := F.1
  have hb := F.2.1
  have hl : lv_has ls 3 [(0, .ref t0), (1, .int i1), (2, .int i2)] := hl
  rw [fX4_areTwo] at h0
  refine lv_aload_n hx hb dX4_areTwo_0 rfl (lv_at hl 0 rfl) ?_
  refine lv_iload_n hx hb dX4_areTwo_1 rfl (lv_at hl 1 rfl) ?_
  obtain ⟨r1, k2, h8⟩ := ob1 h0
  clear h0
  refine g_vi F (cX4_isOne_ok l d cy t0 t1 t2 g0 g1 g2 g3 t_people t_fewest t_kinds t_loves g_many g_sets g_chalk g_wet g_harvest g_draw i1 r1 k2) cal_X4_isOne t_476 rfl ⟨by decide, by decide⟩ hw (w' := List.flatten [wT cy t0 t1 t2 g0 t_people t_fewest t_kinds t_loves, wG cy g0 g1 g2 g3 g_many g_sets g_chalk g_wet g_harvest g_draw]) Cut.all 0 4 rfl rfl hl.1 (Nat.le_of_ble_eq_true rfl) rfl dX4_areTwo_2 (fun H locs hw => ?_)
  refine lv_if_eq (tgt := 25) hx hb dX4_areTwo_5 (by decide) (fun c3 => ?_) (fun c3 => ?_)
  · rw [if_pos c3] at h8
    refine lv_iconst (v := 0) hx hb dX4_areTwo_25 (by decide) ?_
    obtain rfl := inj1 h8
    exact hret _ _ _ _ rfl hw dX4_areTwo_26
  · rw [if_neg c3] at h8
    refine lv_aload_n hx hb dX4_areTwo_8 rfl (lv_at hl 0 rfl) ?_
    refine lv_iload_n hx hb dX4_areTwo_9 rfl (lv_at hl 2 rfl) ?_
    obtain ⟨r4, k5, h9⟩ := ob1 h8
    clear h8
    refine g_vi F (cX4_isOne_ok l d cy t0 t1 t2 g0 g1 g2 g3 t_people t_fewest t_kinds t_loves g_many g_sets g_chalk g_wet g_harvest g_draw i2 r4 k5) cal_X4_isOne t_476 rfl ⟨by decide, by decide⟩ hw (w' := List.flatten [wT cy t0 t1 t2 g0 t_people t_fewest t_kinds t_loves, wG cy g0 g1 g2 g3 g_many g_sets g_chalk g_wet g_harvest g_draw]) Cut.all 0 4 rfl rfl hl.1 (Nat.le_of_ble_eq_true rfl) rfl dX4_areTwo_10 (fun H locs hw => ?_)
    refine lv_if_eq (tgt := 25) hx hb dX4_areTwo_13 (by decide) (fun c6 => ?_) (fun c6 => ?_)
    · rw [if_pos c6] at h9
      refine lv_iconst (v := 0) hx hb dX4_areTwo_25 (by decide) ?_
      obtain rfl := inj1 h9
      exact hret _ _ _ _ rfl hw dX4_areTwo_26
    · rw [if_neg c6] at h9
      refine lv_iload_n hx hb dX4_areTwo_16 rfl (lv_at hl 1 rfl) ?_
      refine lv_iload_n hx hb dX4_areTwo_17 rfl (lv_at hl 2 rfl) ?_
      refine lv_icmp_eq (tgt := 25) hx hb dX4_areTwo_18 (by decide) (fun c7 => ?_) (fun c7 => ?_)
      · rw [if_pos c7] at h9
        refine lv_iconst (v := 0) hx hb dX4_areTwo_25 (by decide) ?_
        obtain rfl := inj1 h9
        exact hret _ _ _ _ rfl hw dX4_areTwo_26
      · rw [if_neg c7] at h9
        refine lv_iconst (v := 1) hx hb dX4_areTwo_21 (by decide) ?_
        refine lv_goto (tgt := 26) hx hb dX4_areTwo_22 (by decide) ?_
        obtain rfl := inj1 h9
        exact hret _ _ _ _ rfl hw dX4_areTwo_26
theorem cal_X4_settle : CalV yX4_settle cX4_settle 5 (some .int) RX4 2 := ⟨t_224, t_222, t_223, t_38, by decide +kernel⟩
set_option maxHeartbeats 4000000 in
set_option maxRecDepth 100000 in
theorem cX4_settle_ok (l : Launch) (d : va_G) (cy : Nat → ClassId) (t0 t1 t2 g0 g1 g2 g3 : Nat) (t_people : Int32) (t_fewest : Int32) (t_kinds : Nat → Int32) (t_loves : Nat → Int32) (g_many : Nat → Int32) (g_sets : Nat → Int32) (g_chalk : Nat → Int32) (g_wet : Int32) (g_harvest : Int32) (g_draw : Int32) (i1 : Int32) (i2 : Int32) (r : Int32) (t_people_r : Int32) (t_kinds_r : Nat → Int32) (t_loves_r : Nat → Int32) (g_many_r : Nat → Int32) (g_sets_r : Nat → Int32) (g_chalk_r : Nat → Int32) (h0 : fX4_settle t_people t_kinds t_loves g_many g_sets g_chalk i1 i2 = some (r, t_people_r, t_kinds_r, t_loves_r, g_many_r, g_sets_r, g_chalk_r)) : CI l yX4_settle cX4_settle 5 (some .int) 1 24 d cy [.ref t0, .int i1, .int i2] (List.flatten [wT cy t0 t1 t2 g0 t_people t_fewest t_kinds t_loves, wG cy g0 g1 g2 g3 g_many g_sets g_chalk g_wet g_harvest g_draw]) (List.flatten [wT cy t0 t1 t2 g0 t_people_r t_fewest t_kinds_r t_loves_r, wG cy g0 g1 g2 g3 g_many_r g_sets_r g_chalk_r g_wet g_harvest g_draw]) r := by
  refine CI.of (by decide) (Nat.le_of_ble_eq_true rfl) ?_
  intro p e s m args below meth c A ls Q F hret hw hl
  have hx := F.1
  have hb := F.2.1
  have hl : lv_has ls 5 [(0, .ref t0), (1, .int i1), (2, .int i2)] := hl
  rw [fX4_settle] at h0
  refine lv_aload_n hx hb dX4_settle_0 rfl (lv_at hl 0 rfl) ?_
  refine g_get F inG4 hw 0 rfl rfl 0 (by decide) t_104 (fun _ h9 => h9) rfl dX4_settle_1 ?_
  refine lv_bipush (v := 6) hx hb dX4_settle_4 (by decide) ?_
  refine lv_icmp_lt (tgt := 12) hx hb dX4_settle_6 (by decide) (fun c1 => ?_) (fun c1 => ?_)
  · rw [if_pos c1] at h0
    refine lv_aload_n hx hb dX4_settle_12 rfl (lv_at hl 0 rfl) ?_
    refine g_get F inG4 hw 0 rfl rfl 0 (by decide) t_104 (fun _ h9 => h9) rfl dX4_settle_13 ?_
    refine lv_istore_n (lv' := [(3, .int t_people), (0, .ref t0), (1, .int i1), (2, .int i2)]) hx hb dX4_settle_16 rfl hl (by decide) rfl (fun ls hl => ?_)
    refine lv_aload_n hx hb dX4_settle_17 rfl (lv_at hl 1 rfl) ?_
    refine lv_dup hx hb dX4_settle_18 rfl ?_
    refine g_get F inG4 hw 0 rfl rfl 0 (by decide) t_104 (fun _ h9 => h9) rfl dX4_settle_19 ?_
    refine lv_iconst (v := 1) hx hb dX4_settle_22 (by decide) ?_
    refine lv_iadd hx hb dX4_settle_23 ?_
    refine g_put F inG4 tyX4 tyX4_ok nmX4 hw 0 rfl rfl 0 (by decide) t_104 (fun _ h9 => h9) rfl (ty := .int) (by decide +kernel) rfl rfl (Nat.le_of_ble_eq_true rfl) dX4_settle_24 (w' := List.flatten [wT cy t0 t1 t2 g0 (t_people + 1) t_fewest t_kinds t_loves, wG cy g0 g1 g2 g3 g_many g_sets g_chalk g_wet g_harvest g_draw]) rfl (fun H locs hw => ?_)
    refine lv_aload_n hx hb dX4_settle_27 rfl (lv_at hl 1 rfl) ?_
    refine g_get F inG4 hw 0 rfl rfl 2 (by decide) t_109 (fun _ h9 => h9) rfl dX4_settle_28 ?_
    refine lv_iload_n hx hb dX4_settle_31 rfl (lv_at hl 0 rfl) ?_
    refine lv_iload_n hx hb dX4_settle_32 rfl (lv_at hl 2 rfl) ?_
    obtain ⟨j2, k3, h27⟩ := ob1 h0
    clear h0
    refine g_iast F hw 1 rfl k3 dX4_settle_33 (w' := List.flatten [wT cy t0 t1 t2 g0 (t_people + 1) t_fewest (upd t_kinds j2 i1) t_loves, wG cy g0 g1 g2 g3 g_many g_sets g_chalk g_wet g_harvest g_draw]) rfl (fun H locs hw => ?_)
    refine lv_aload_n hx hb dX4_settle_34 rfl (lv_at hl 1 rfl) ?_
    refine g_get F inG4 hw 0 rfl rfl 3 (by decide) t_111 (fun _ h9 => h9) rfl dX4_settle_35 ?_
    refine lv_iload_n hx hb dX4_settle_38 rfl (lv_at hl 0 rfl) ?_
    refine lv_iload_n hx hb dX4_settle_39 rfl (lv_at hl 0 rfl) ?_
    refine g_iast F hw 2 rfl k3 dX4_settle_40 (w' := List.flatten [wT cy t0 t1 t2 g0 (t_people + 1) t_fewest (upd t_kinds j2 i1) (upd t_loves j2 t_people), wG cy g0 g1 g2 g3 g_many g_sets g_chalk g_wet g_harvest g_draw]) rfl (fun H locs hw => ?_)
    refine lv_aload_n hx hb dX4_settle_41 rfl (lv_at hl 1 rfl) ?_
    refine g_get F inG4 hw 0 rfl rfl 4 (by decide) t_114 (fun _ h9 => h9) rfl dX4_settle_42 ?_
    refine g_get F inG0 hw 3 rfl rfl 2 (by decide) t_77 (fun _ h9 => h9) rfl dX4_settle_45 ?_
    refine lv_iload_n hx hb dX4_settle_48 rfl (lv_at hl 0 rfl) ?_
    refine lv_iload_n hx hb dX4_settle_49 rfl (lv_at hl 3 rfl) ?_
    refine g_iast F hw 6 rfl k3 dX4_settle_50 (w' := List.flatten [wT cy t0 t1 t2 g0 (t_people + 1) t_fewest (upd t_kinds j2 i1) (upd t_loves j2 t_people), wG cy g0 g1 g2 g3 g_many g_sets (upd g_chalk j2 i2) g_wet g_harvest g_draw]) rfl (fun H locs hw => ?_)
    refine lv_iconst (v := 0) hx hb dX4_settle_51 (by decide) ?_
    refine lv_istore (lv' := [(4, .int 0), (3, .int t_people), (0, .ref t0), (1, .int i1), (2, .int i2)]) hx hb dX4_settle_52 hl (by decide) rfl (fun ls hl => ?_)
    obtain ⟨q21, q22, h28, h29⟩ := ob2 h27
    clear h27
    have kont18 : ∀ (H : Heap) (locs : List Loc) (ls : Array Slot), Wd d A s.heap (List.flatten [wT cy t0 t1 t2 g0 (t_people + 1) t_fewest (upd t_kinds j2 i1) (upd t_loves j2 t_people), wG cy g0 g1 g2 g3 q21 q22 (upd g_chalk j2 i2) g_wet g_harvest g_draw]) H locs → lv_has ls 5 [(3, .int t_people)] → W p l e (rmo 1 24) s m args below meth c H locs 0 0 Q (F0 m 78 ls []) := by
      intro H locs ls hw hl
      clear h28
      refine lv_iload_n hx hb dX4_settle_78 rfl (lv_at hl 0 rfl) ?_
      obtain ⟨rfl, rfl, rfl, rfl, rfl, rfl, rfl⟩ := inj7 h29
      exact hret _ _ _ _ hw dX4_settle_79
    clear h29
    have loop20 : ∀ (n : Nat) (v15 : Int32) (g16 : Nat → Int32) (g17 : Nat → Int32) (H : Heap) (locs : List Loc) (ls : Array Slot), Wd d A s.heap (List.flatten [wT cy t0 t1 t2 g0 (t_people + 1) t_fewest (upd t_kinds j2 i1) (upd t_loves j2 t_people), wG cy g0 g1 g2 g3 g16 g17 (upd g_chalk j2 i2) g_wet g_harvest g_draw]) H locs → lv_has ls 5 [(0, .ref t0), (3, .int t_people), (4, .int v15)] → fX4_settle_L54 t_people n v15 g16 g17 = some (q21, q22) → W p l e (rmo 1 24) s m args below meth c H locs 0 0 Q (F0 m 54 ls []) := by
      intro n
      induction n with
      | zero =>
        intro v15 g16 g17 H locs ls hw hl h30
        rw [fX4_settle_L54] at h30
        cases h30
      | succ n ih19 =>
        intro v15 g16 g17 H locs ls hw hl h31
        rw [fX4_settle_L54] at h31
        refine lv_iload hx hb dX4_settle_54 (lv_at hl 2 rfl) ?_
        refine lv_bipush (v := 12) hx hb dX4_settle_56 (by decide) ?_
        refine lv_icmp_ge (tgt := 78) hx hb dX4_settle_58 (by decide) (fun c23 => ?_) (fun c23 => ?_)
        · rw [if_pos c23] at h31
          obtain ⟨rfl, rfl⟩ := inj2 h31
          exact kont18 _ _ _ hw (lv_sub hl [1] rfl)
        · rw [if_neg c23] at h31
          refine lv_aload_n hx hb dX4_settle_61 rfl (lv_at hl 0 rfl) ?_
          refine g_get F inG4 hw 0 rfl rfl 4 (by decide) t_114 (fun _ h9 => h9) rfl dX4_settle_62 ?_
          refine lv_iload_n hx hb dX4_settle_65 rfl (lv_at hl 1 rfl) ?_
          refine lv_iload hx hb dX4_settle_66 (lv_at hl 2 rfl) ?_
          refine lv_iconst (v := 1) hx hb dX4_settle_68 (by decide) ?_
          obtain ⟨f24, f25, k26, h32⟩ := ob2 h31
          clear h31
          refine g_vv F (cX0_setMany_ok l d cy g0 g1 g2 g3 g16 g17 (upd g_chalk j2 i2) g_wet g_harvest g_draw t_people v15 1 f24 f25 k26) cal_X0_setMany t_225 rfl ⟨by decide, by decide⟩ hw (w' := List.flatten [wT cy t0 t1 t2 g0 (t_people + 1) t_fewest (upd t_kinds j2 i1) (upd t_loves j2 t_people), wG cy g0 g1 g2 g3 f24 f25 (upd g_chalk j2 i2) g_wet g_harvest g_draw]) (SCut.cut (SCut.one (SCut.skip (SCut.take SCut.rf SCut.none)))) 0 0 rfl rfl hl.1 (Nat.le_of_ble_eq_true rfl) rfl dX4_settle_69 (fun H locs hw => ?_)
          refine lv_iinc (v := (v15 + 1)) (lv' := [(4, .int (v15 + 1)), (0, .ref t0), (3, .int t_people)]) hx hb dX4_settle_72 hl (k := 2) rfl rfl (by decide) rfl (fun ls hl => ?_)
          refine lv_goto (tgt := 54) hx hb dX4_settle_75 (by decide) ?_
          exact ih19 (v15 + 1) f24 f25 _ _ _ hw (lv_sub hl [1, 2, 0] rfl) h32
    exact loop20 fl 0 g_many g_sets _ _ _ hw (lv_sub hl [2, 1, 0] rfl) h28
  · rw [if_neg c1] at h0
    refine lv_bipush (v := (-3)) hx hb dX4_settle_9 (by decide) ?_
    obtain ⟨rfl, rfl, rfl, rfl, rfl, rfl, rfl⟩ := inj7 h0
    exact hret _ _ _ _ hw dX4_settle_11
theorem cal_X4_lovedSet : CalV yX4_lovedSet cX4_lovedSet 3 (some .int) RX4 2 := ⟨t_264, t_262, t_263, t_38, by decide +kernel⟩
set_option maxHeartbeats 4000000 in
set_option maxRecDepth 100000 in
theorem cX4_lovedSet_ok (l : Launch) (d : va_G) (cy : Nat → ClassId) (t0 t1 t2 g0 g1 g2 g3 : Nat) (t_people : Int32) (t_fewest : Int32) (t_kinds : Nat → Int32) (t_loves : Nat → Int32) (g_many : Nat → Int32) (g_sets : Nat → Int32) (g_chalk : Nat → Int32) (g_wet : Int32) (g_harvest : Int32) (g_draw : Int32) (i1 : Int32) (i2 : Int32) (r : Int32) (h0 : fX4_lovedSet g_sets i1 i2 = some (r)) : CI l yX4_lovedSet cX4_lovedSet 3 (some .int) 0 0 d cy [.ref t0, .int i1, .int i2] (List.flatten [wT cy t0 t1 t2 g0 t_people t_fewest t_kinds t_loves, wG cy g0 g1 g2 g3 g_many g_sets g_chalk g_wet g_harvest g_draw]) (List.flatten [wT cy t0 t1 t2 g0 t_people t_fewest t_kinds t_loves, wG cy g0 g1 g2 g3 g_many g_sets g_chalk g_wet g_harvest g_draw]) r := by
  refine CI.of (by decide) (Nat.le_of_ble_eq_true rfl) ?_
  intro p e s m args below meth c A ls Q F hret hw hl
  have hx := F.1
  have hb := F.2.1
  have hl : lv_has ls 3 [(0, .ref t0), (1, .int i1), (2, .int i2)] := hl
  rw [fX4_lovedSet] at h0
  refine lv_iload_n hx hb dX4_lovedSet_0 rfl (lv_at hl 2 rfl) ?_
  refine lv_iload_n hx hb dX4_lovedSet_1 rfl (lv_at hl 1 rfl) ?_
  refine lv_icmp_ne (tgt := 9) hx hb dX4_lovedSet_2 (by decide) (fun c1 => ?_) (fun c1 => ?_)
  · rw [if_neg c1] at h0
    refine lv_aload_n hx hb dX4_lovedSet_9 rfl (lv_at hl 0 rfl) ?_
    refine g_get F inG4 hw 0 rfl rfl 4 (by decide) t_114 (fun _ h9 => h9) rfl dX4_lovedSet_10 ?_
    refine g_get F inG0 hw 3 rfl rfl 1 (by decide) t_75 (fun _ h9 => h9) rfl dX4_lovedSet_13 ?_
    refine lv_iload_n hx hb dX4_lovedSet_16 rfl (lv_at hl 2 rfl) ?_
    obtain ⟨j2, k3, h4⟩ := ob1 h0
    clear h0
    refine g_iald F hw 5 rfl k3 dX4_lovedSet_17 ?_
    obtain rfl := inj1 h4
    exact hret _ _ _ _ hw dX4_lovedSet_18
  · rw [if_pos c1] at h0
    refine lv_iconst (v := 0) hx hb dX4_lovedSet_5 (by decide) ?_
    refine lv_goto (tgt := 18) hx hb dX4_lovedSet_6 (by decide) ?_
    obtain rfl := inj1 h0
    exact hret _ _ _ _ hw dX4_lovedSet_18
theorem cal_X4_worthOfHalf : CalV yX4_worthOfHalf cX4_worthOfHalf 4 (some .int) RX4 2 := ⟨t_285, t_283, t_284, t_38, by decide +kernel⟩
set_option maxHeartbeats 4000000 in
set_option maxRecDepth 100000 in
theorem cX4_worthOfHalf_ok (l : Launch) (d : va_G) (cy : Nat → ClassId) (t0 t1 t2 g0 g1 g2 g3 : Nat) (t_people : Int32) (t_fewest : Int32) (t_kinds : Nat → Int32) (t_loves : Nat → Int32) (g_many : Nat → Int32) (g_sets : Nat → Int32) (g_chalk : Nat → Int32) (g_wet : Int32) (g_harvest : Int32) (g_draw : Int32) (i1 : Int32) (i2 : Int32) (r : Int32) (h0 : fX4_worthOfHalf t_kinds t_loves g_sets g_wet g_harvest i1 i2 = some (r)) : CI l yX4_worthOfHalf cX4_worthOfHalf 4 (some .int) 2 49 d cy [.ref t0, .int i1, .int i2] (List.flatten [wT cy t0 t1 t2 g0 t_people t_fewest t_kinds t_loves, wG cy g0 g1 g2 g3 g_many g_sets g_chalk g_wet g_harvest g_draw]) (List.flatten [wT cy t0 t1 t2 g0 t_people t_fewest t_kinds t_loves, wG cy g0 g1 g2 g3 g_many g_sets g_chalk g_wet g_harvest g_draw]) r := by
  refine CI.of (by decide) (Nat.le_of_ble_eq_true rfl) ?_
  intro p e s m args below meth c A ls Q F hret hw hl
  have hx := F.1
  have hb := F.2.1
  have hl : lv_has ls 4 [(0, .ref t0), (1, .int i1), (2, .int i2)] := hl
  rw [fX4_worthOfHalf] at h0
  refine lv_aload_n hx hb dX4_worthOfHalf_0 rfl (lv_at hl 0 rfl) ?_
  refine lv_iload_n hx hb dX4_worthOfHalf_1 rfl (lv_at hl 1 rfl) ?_
  refine lv_aload_n hx hb dX4_worthOfHalf_2 rfl (lv_at hl 0 rfl) ?_
  refine g_get F inG4 hw 0 rfl rfl 3 (by decide) t_111 (fun _ h9 => h9) rfl dX4_worthOfHalf_3 ?_
  refine lv_iload_n hx hb dX4_worthOfHalf_6 rfl (lv_at hl 1 rfl) ?_
  obtain ⟨j1, k2, h7⟩ := ob1 h0
  clear h0
  refine g_iald F hw 2 rfl k2 dX4_worthOfHalf_7 ?_
  obtain ⟨r3, k4, h8⟩ := ob1 h7
  clear h7
  refine g_vi F (cX4_lovedSet_ok l d cy t0 t1 t2 g0 g1 g2 g3 t_people t_fewest t_kinds t_loves g_many g_sets g_chalk g_wet g_harvest g_draw i1 (t_loves j1) r3 k4) cal_X4_lovedSet t_261 rfl ⟨by decide, by decide⟩ hw (w' := List.flatten [wT cy t0 t1 t2 g0 t_people t_fewest t_kinds t_loves, wG cy g0 g1 g2 g3 g_many g_sets g_chalk g_wet g_harvest g_draw]) Cut.all 0 4 rfl rfl hl.1 (Nat.le_of_ble_eq_true rfl) rfl dX4_worthOfHalf_8 (fun H locs hw => ?_)
  refine lv_istore_n (lv' := [(3, .int r3), (0, .ref t0), (1, .int i1), (2, .int i2)]) hx hb dX4_worthOfHalf_11 rfl hl (by decide) rfl (fun ls hl => ?_)
  refine lv_aload_n hx hb dX4_worthOfHalf_12 rfl (lv_at hl 1 rfl) ?_
  refine g_get F inG4 hw 0 rfl rfl 2 (by decide) t_109 (fun _ h9 => h9) rfl dX4_worthOfHalf_13 ?_
  refine lv_iload_n hx hb dX4_worthOfHalf_16 rfl (lv_at hl 2 rfl) ?_
  refine g_iald F hw 1 rfl k2 dX4_worthOfHalf_17 ?_
  refine lv_iload_n hx hb dX4_worthOfHalf_18 rfl (lv_at hl 3 rfl) ?_
  refine lv_aload_n hx hb dX4_worthOfHalf_19 rfl (lv_at hl 1 rfl) ?_
  refine g_get F inG4 hw 0 rfl rfl 4 (by decide) t_114 (fun _ h9 => h9) rfl dX4_worthOfHalf_20 ?_
  refine g_get F inG0 hw 3 rfl rfl 1 (by decide) t_75 (fun _ h9 => h9) rfl dX4_worthOfHalf_23 ?_
  refine lv_iload_n hx hb dX4_worthOfHalf_26 rfl (lv_at hl 2 rfl) ?_
  refine g_iald F hw 5 rfl k2 dX4_worthOfHalf_27 ?_
  refine lv_iload_n hx hb dX4_worthOfHalf_28 rfl (lv_at hl 0 rfl) ?_
  refine lv_aload_n hx hb dX4_worthOfHalf_29 rfl (lv_at hl 1 rfl) ?_
  refine g_get F inG4 hw 0 rfl rfl 4 (by decide) t_114 (fun _ h9 => h9) rfl dX4_worthOfHalf_30 ?_
  refine g_get F inG0 hw 3 rfl rfl 3 (by decide) t_82 (fun _ h9 => h9) rfl dX4_worthOfHalf_33 ?_
  refine lv_aload_n hx hb dX4_worthOfHalf_36 rfl (lv_at hl 1 rfl) ?_
  refine g_get F inG4 hw 0 rfl rfl 4 (by decide) t_114 (fun _ h9 => h9) rfl dX4_worthOfHalf_37 ?_
  refine g_get F inG0 hw 3 rfl rfl 4 (by decide) t_85 (fun _ h9 => h9) rfl dX4_worthOfHalf_40 ?_
  obtain ⟨r5, k6, h9⟩ := ob1 h8
  clear h8
  refine g_ni F (cX5_worthByKind_ok l d cy (t_kinds j1) i2 (g_sets j1) r3 g_wet g_harvest r5 k6) cal_X5_worthByKind (List.mem_of_getElem? (i := 5) rfl) rfl ⟨by decide, by decide⟩ hw (w' := List.flatten [wT cy t0 t1 t2 g0 t_people t_fewest t_kinds t_loves, wG cy g0 g1 g2 g3 g_many g_sets g_chalk g_wet g_harvest g_draw]) Cut.nil hl.1 (Nat.le_of_ble_eq_true rfl) rfl dX4_worthOfHalf_43 (fun H locs hw => ?_)
  obtain rfl := inj1 h9
  exact hret _ _ _ _ hw dX4_worthOfHalf_46
theorem cal_X4_worthInRain : CalV yX4_worthInRain cX4_worthInRain 7 (some .int) RX4 3 := ⟨t_260, t_258, t_259, t_38, by decide +kernel⟩
set_option maxHeartbeats 4000000 in
set_option maxRecDepth 100000 in
theorem cX4_worthInRain_ok (l : Launch) (d : va_G) (cy : Nat → ClassId) (t0 t1 t2 g0 g1 g2 g3 : Nat) (t_people : Int32) (t_fewest : Int32) (t_kinds : Nat → Int32) (t_loves : Nat → Int32) (g_many : Nat → Int32) (g_sets : Nat → Int32) (g_chalk : Nat → Int32) (g_wet : Int32) (g_harvest : Int32) (g_draw : Int32) (i1 : Int32) (i2 : Int32) (i3 : Int32) (r : Int32) (h0 : fX4_worthInRain t_kinds t_loves g_sets g_harvest i1 i2 i3 = some (r)) : CI l yX4_worthInRain cX4_worthInRain 7 (some .int) 2 49 d cy [.ref t0, .int i1, .int i2, .int i3] (List.flatten [wT cy t0 t1 t2 g0 t_people t_fewest t_kinds t_loves, wG cy g0 g1 g2 g3 g_many g_sets g_chalk g_wet g_harvest g_draw]) (List.flatten [wT cy t0 t1 t2 g0 t_people t_fewest t_kinds t_loves, wG cy g0 g1 g2 g3 g_many g_sets g_chalk g_wet g_harvest g_draw]) r := by
  refine CI.of (by decide) (Nat.le_of_ble_eq_true rfl) ?_
  intro p e s m args below meth c A ls Q F hret hw hl
  have hx := F.1
  have hb := F.2.1
  have hl : lv_has ls 7 [(0, .ref t0), (1, .int i1), (2, .int i2), (3, .int i3)] := hl
  rw [fX4_worthInRain] at h0
  refine lv_aload_n hx hb dX4_worthInRain_0 rfl (lv_at hl 0 rfl) ?_
  refine lv_iload_n hx hb dX4_worthInRain_1 rfl (lv_at hl 1 rfl) ?_
  refine lv_aload_n hx hb dX4_worthInRain_2 rfl (lv_at hl 0 rfl) ?_
  refine g_get F inG4 hw 0 rfl rfl 3 (by decide) t_111 (fun _ h9 => h9) rfl dX4_worthInRain_3 ?_
  refine lv_iload_n hx hb dX4_worthInRain_6 rfl (lv_at hl 1 rfl) ?_
  obtain ⟨j1, k2, h28⟩ := ob1 h0
  clear h0
  refine g_iald F hw 2 rfl k2 dX4_worthInRain_7 ?_
  obtain ⟨r3, k4, h29⟩ := ob1 h28
  clear h28
  refine g_vi F (cX4_lovedSet_ok l d cy t0 t1 t2 g0 g1 g2 g3 t_people t_fewest t_kinds t_loves g_many g_sets g_chalk g_wet g_harvest g_draw i1 (t_loves j1) r3 k4) cal_X4_lovedSet t_261 rfl ⟨by decide, by decide⟩ hw (w' := List.flatten [wT cy t0 t1 t2 g0 t_people t_fewest t_kinds t_loves, wG cy g0 g1 g2 g3 g_many g_sets g_chalk g_wet g_harvest g_draw]) Cut.all 0 4 rfl rfl hl.1 (Nat.le_of_ble_eq_true rfl) rfl dX4_worthInRain_8 (fun H locs hw => ?_)
  refine lv_istore (lv' := [(4, .int r3), (0, .ref t0), (1, .int i1), (2, .int i2), (3, .int i3)]) hx hb dX4_worthInRain_11 hl (by decide) rfl (fun ls hl => ?_)
  refine lv_iconst (v := 0) hx hb dX4_worthInRain_13 (by decide) ?_
  refine lv_istore (lv' := [(5, .int 0), (4, .int r3), (0, .ref t0), (1, .int i1), (2, .int i2), (3, .int i3)]) hx hb dX4_worthInRain_14 hl (by decide) rfl (fun ls hl => ?_)
  refine lv_iconst (v := 0) hx hb dX4_worthInRain_16 (by decide) ?_
  refine lv_istore (lv' := [(6, .int 0), (5, .int 0), (4, .int r3), (0, .ref t0), (1, .int i1), (2, .int i2), (3, .int i3)]) hx hb dX4_worthInRain_17 hl (by decide) rfl (fun ls hl => ?_)
  obtain ⟨o22, h30, h31⟩ := ob1 h29
  clear h29
  have kont19 : ∀ (H : Heap) (locs : List Loc) (ls : Array Slot), Wd d A s.heap (List.flatten [wT cy t0 t1 t2 g0 t_people t_fewest t_kinds t_loves, wG cy g0 g1 g2 g3 g_many g_sets g_chalk g_wet g_harvest g_draw]) H locs → lv_has ls 7 [(5, .int o22)] → W p l e (rmo 2 49) s m args below meth c H locs 0 0 Q (F0 m 59 ls []) := by
    intro H locs ls hw hl
    clear h30
    refine lv_iload hx hb dX4_worthInRain_59 (lv_at hl 0 rfl) ?_
    obtain rfl := inj1 h31
    exact hret _ _ _ _ hw dX4_worthInRain_61
  clear h31
  have loop21 : ∀ (n : Nat) (v17 : Int32) (v18 : Int32) (H : Heap) (locs : List Loc) (ls : Array Slot), Wd d A s.heap (List.flatten [wT cy t0 t1 t2 g0 t_people t_fewest t_kinds t_loves, wG cy g0 g1 g2 g3 g_many g_sets g_chalk g_wet g_harvest g_draw]) H locs → lv_has ls 7 [(0, .ref t0), (1, .int i1), (2, .int i2), (3, .int i3), (4, .int r3), (5, .int v17), (6, .int v18)] → fX4_worthInRain_L19 g_harvest i1 i2 i3 t_kinds r3 n v17 v18 = some (o22) → W p l e (rmo 2 49) s m args below meth c H locs 0 0 Q (F0 m 19 ls []) := by
    intro n
    induction n with
    | zero =>
      intro v17 v18 H locs ls hw hl h32
      rw [fX4_worthInRain_L19] at h32
      cases h32
    | succ n ih20 =>
      intro v17 v18 H locs ls hw hl h33
      rw [fX4_worthInRain_L19] at h33
      refine lv_iload hx hb dX4_worthInRain_19 (lv_at hl 6 rfl) ?_
      refine lv_bipush (v := 12) hx hb dX4_worthInRain_21 (by decide) ?_
      refine lv_icmp_ge (tgt := 59) hx hb dX4_worthInRain_23 (by decide) (fun c23 => ?_) (fun c23 => ?_)
      · rw [if_pos c23] at h33
        obtain rfl := inj1 h33
        exact kont19 _ _ _ hw (lv_sub hl [5] rfl)
      · rw [if_neg c23] at h33
        refine lv_iload hx hb dX4_worthInRain_26 (lv_at hl 5 rfl) ?_
        refine lv_aload_n hx hb dX4_worthInRain_28 rfl (lv_at hl 0 rfl) ?_
        refine g_get F inG4 hw 0 rfl rfl 2 (by decide) t_109 (fun _ h9 => h9) rfl dX4_worthInRain_29 ?_
        refine lv_iload_n hx hb dX4_worthInRain_32 rfl (lv_at hl 1 rfl) ?_
        obtain ⟨j24, k25, h34⟩ := ob1 h33
        clear h33
        refine g_iald F hw 1 rfl k25 dX4_worthInRain_33 ?_
        refine lv_iload hx hb dX4_worthInRain_34 (lv_at hl 6 rfl) ?_
        refine lv_iload_n hx hb dX4_worthInRain_36 rfl (lv_at hl 2 rfl) ?_
        refine lv_iload hx hb dX4_worthInRain_37 (lv_at hl 4 rfl) ?_
        refine lv_iload_n hx hb dX4_worthInRain_39 rfl (lv_at hl 3 rfl) ?_
        refine lv_aload_n hx hb dX4_worthInRain_40 rfl (lv_at hl 0 rfl) ?_
        refine g_get F inG4 hw 0 rfl rfl 4 (by decide) t_114 (fun _ h9 => h9) rfl dX4_worthInRain_41 ?_
        refine g_get F inG0 hw 3 rfl rfl 4 (by decide) t_85 (fun _ h9 => h9) rfl dX4_worthInRain_44 ?_
        obtain ⟨r26, k27, h35⟩ := ob1 h34
        clear h34
        refine g_ni F (cX5_worthByKind_ok l d cy (t_kinds j24) v18 i2 r3 i3 g_harvest r26 k27) cal_X5_worthByKind (List.mem_of_getElem? (i := 5) rfl) rfl ⟨by decide, by decide⟩ hw (w' := List.flatten [wT cy t0 t1 t2 g0 t_people t_fewest t_kinds t_loves, wG cy g0 g1 g2 g3 g_many g_sets g_chalk g_wet g_harvest g_draw]) Cut.nil hl.1 (Nat.le_of_ble_eq_true rfl) rfl dX4_worthInRain_47 (fun H locs hw => ?_)
        refine lv_iadd hx hb dX4_worthInRain_50 ?_
        refine lv_istore (lv' := [(5, .int (v17 + r26)), (0, .ref t0), (1, .int i1), (2, .int i2), (3, .int i3), (4, .int r3), (6, .int v18)]) hx hb dX4_worthInRain_51 hl (by decide) rfl (fun ls hl => ?_)
        refine lv_iinc (v := (v18 + 1)) (lv' := [(6, .int (v18 + 1)), (5, .int (v17 + r26)), (0, .ref t0), (1, .int i1), (2, .int i2), (3, .int i3), (4, .int r3)]) hx hb dX4_worthInRain_53 hl (k := 6) rfl rfl (by decide) rfl (fun ls hl => ?_)
        refine lv_goto (tgt := 19) hx hb dX4_worthInRain_56 (by decide) ?_
        exact ih20 (v17 + r26) (v18 + 1) _ _ _ hw (lv_sub hl [2, 3, 4, 5, 6, 1, 0] rfl) h35
  exact loop21 fl 0 0 _ _ _ hw (lv_sub hl [3, 4, 5, 6, 2, 1, 0] rfl) h30
theorem cal_X4_worthOf : CalV yX4_worthOf cX4_worthOf 2 (some .int) RX4 1 := ⟨t_256, t_254, t_255, t_38, by decide +kernel⟩
set_option maxHeartbeats 4000000 in
set_option maxRecDepth 100000 in
theorem cX4_worthOf_ok (l : Launch) (d : va_G) (cy : Nat → ClassId) (t0 t1 t2 g0 g1 g2 g3 : Nat) (t_people : Int32) (t_fewest : Int32) (t_kinds : Nat → Int32) (t_loves : Nat → Int32) (g_many : Nat → Int32) (g_sets : Nat → Int32) (g_chalk : Nat → Int32) (g_wet : Int32) (g_harvest : Int32) (g_draw : Int32) (i1 : Int32) (r : Int32) (h0 : fX4_worthOf t_kinds t_loves g_sets g_wet g_harvest i1 = some (r)) : CI l yX4_worthOf cX4_worthOf 2 (some .int) 3 75 d cy [.ref t0, .int i1] (List.flatten [wT cy t0 t1 t2 g0 t_people t_fewest t_kinds t_loves, wG cy g0 g1 g2 g3 g_many g_sets g_chalk g_wet g_harvest g_draw]) (List.flatten [wT cy t0 t1 t2 g0 t_people t_fewest t_kinds t_loves, wG cy g0 g1 g2 g3 g_many g_sets g_chalk g_wet g_harvest g_draw]) r := by
  refine CI.of (by decide) (Nat.le_of_ble_eq_true rfl) ?_
  intro p e s m args below meth c A ls Q F hret hw hl
  have hx := F.1
  have hb := F.2.1
  have hl : lv_has ls 2 [(0, .ref t0), (1, .int i1)] := hl
  rw [fX4_worthOf] at h0
  refine lv_aload_n hx hb dX4_worthOf_0 rfl (lv_at hl 0 rfl) ?_
  refine lv_iload_n hx hb dX4_worthOf_1 rfl (lv_at hl 1 rfl) ?_
  refine lv_aload_n hx hb dX4_worthOf_2 rfl (lv_at hl 0 rfl) ?_
  refine g_get F inG4 hw 0 rfl rfl 4 (by decide) t_114 (fun _ h9 => h9) rfl dX4_worthOf_3 ?_
  refine g_get F inG0 hw 3 rfl rfl 1 (by decide) t_75 (fun _ h9 => h9) rfl dX4_worthOf_6 ?_
  refine lv_iload_n hx hb dX4_worthOf_9 rfl (lv_at hl 1 rfl) ?_
  obtain ⟨j1, k2, h5⟩ := ob1 h0
  clear h0
  refine g_iald F hw 5 rfl k2 dX4_worthOf_10 ?_
  refine lv_aload_n hx hb dX4_worthOf_11 rfl (lv_at hl 0 rfl) ?_
  refine g_get F inG4 hw 0 rfl rfl 4 (by decide) t_114 (fun _ h9 => h9) rfl dX4_worthOf_12 ?_
  refine g_get F inG0 hw 3 rfl rfl 3 (by decide) t_82 (fun _ h9 => h9) rfl dX4_worthOf_15 ?_
  obtain ⟨r3, k4, h6⟩ := ob1 h5
  clear h5
  refine g_vi F (cX4_worthInRain_ok l d cy t0 t1 t2 g0 g1 g2 g3 t_people t_fewest t_kinds t_loves g_many g_sets g_chalk g_wet g_harvest g_draw i1 (g_sets j1) g_wet r3 k4) cal_X4_worthInRain t_257 rfl ⟨by decide, by decide⟩ hw (w' := List.flatten [wT cy t0 t1 t2 g0 t_people t_fewest t_kinds t_loves, wG cy g0 g1 g2 g3 g_many g_sets g_chalk g_wet g_harvest g_draw]) Cut.all 0 4 rfl rfl hl.1 (Nat.le_of_ble_eq_true rfl) rfl dX4_worthOf_18 (fun H locs hw => ?_)
  obtain rfl := inj1 h6
  exact hret _ _ _ _ hw dX4_worthOf_21
theorem cal_X4_worthOfSet : CalV yX4_worthOfSet cX4_worthOfSet 3 (some .int) RX4 2 := ⟨t_621, t_619, t_620, t_38, by decide +kernel⟩
set_option maxHeartbeats 4000000 in
set_option maxRecDepth 100000 in
theorem cX4_worthOfSet_ok (l : Launch) (d : va_G) (cy : Nat → ClassId) (t0 t1 t2 g0 g1 g2 g3 : Nat) (t_people : Int32) (t_fewest : Int32) (t_kinds : Nat → Int32) (t_loves : Nat → Int32) (g_many : Nat → Int32) (g_sets : Nat → Int32) (g_chalk : Nat → Int32) (g_wet : Int32) (g_harvest : Int32) (g_draw : Int32) (i1 : Int32) (i2 : Int32) (r : Int32) (h0 : fX4_worthOfSet t_kinds t_loves g_sets g_wet g_harvest i1 i2 = some (r)) : CI l yX4_worthOfSet cX4_worthOfSet 3 (some .int) 3 75 d cy [.ref t0, .int i1, .int i2] (List.flatten [wT cy t0 t1 t2 g0 t_people t_fewest t_kinds t_loves, wG cy g0 g1 g2 g3 g_many g_sets g_chalk g_wet g_harvest g_draw]) (List.flatten [wT cy t0 t1 t2 g0 t_people t_fewest t_kinds t_loves, wG cy g0 g1 g2 g3 g_many g_sets g_chalk g_wet g_harvest g_draw]) r := by
  refine CI.of (by decide) (Nat.le_of_ble_eq_true rfl) ?_
  intro p e s m args below meth c A ls Q F hret hw hl
  have hx := F.1
  have hb := F.2.1
  have hl : lv_has ls 3 [(0, .ref t0), (1, .int i1), (2, .int i2)] := hl
  rw [fX4_worthOfSet] at h0
  refine lv_aload_n hx hb dX4_worthOfSet_0 rfl (lv_at hl 0 rfl) ?_
  refine lv_iload_n hx hb dX4_worthOfSet_1 rfl (lv_at hl 1 rfl) ?_
  refine lv_iload_n hx hb dX4_worthOfSet_2 rfl (lv_at hl 2 rfl) ?_
  refine lv_aload_n hx hb dX4_worthOfSet_3 rfl (lv_at hl 0 rfl) ?_
  refine g_get F inG4 hw 0 rfl rfl 4 (by decide) t_114 (fun _ h9 => h9) rfl dX4_worthOfSet_4 ?_
  refine g_get F inG0 hw 3 rfl rfl 3 (by decide) t_82 (fun _ h9 => h9) rfl dX4_worthOfSet_7 ?_
  obtain ⟨r1, k2, h3⟩ := ob1 h0
  clear h0
  refine g_vi F (cX4_worthInRain_ok l d cy t0 t1 t2 g0 g1 g2 g3 t_people t_fewest t_kinds t_loves g_many g_sets g_chalk g_wet g_harvest g_draw i1 i2 g_wet r1 k2) cal_X4_worthInRain t_257 rfl ⟨by decide, by decide⟩ hw (w' := List.flatten [wT cy t0 t1 t2 g0 t_people t_fewest t_kinds t_loves, wG cy g0 g1 g2 g3 g_many g_sets g_chalk g_wet g_harvest g_draw]) Cut.all 0 4 rfl rfl hl.1 (Nat.le_of_ble_eq_true rfl) rfl dX4_worthOfSet_10 (fun H locs hw => ?_)
  obtain rfl := inj1 h3
  exact hret _ _ _ _ hw dX4_worthOfSet_13
theorem cal_X4_worthOfAll : CalV yX4_worthOfAll cX4_worthOfAll 3 (some .int) RX4 0 := ⟨t_462, t_460, t_461, t_38, by decide +kernel⟩
set_option maxHeartbeats 4000000 in
set_option maxRecDepth 100000 in
theorem cX4_worthOfAll_ok (l : Launch) (d : va_G) (cy : Nat → ClassId) (t0 t1 t2 g0 g1 g2 g3 : Nat) (t_people : Int32) (t_fewest : Int32) (t_kinds : Nat → Int32) (t_loves : Nat → Int32) (g_many : Nat → Int32) (g_sets : Nat → Int32) (g_chalk : Nat → Int32) (g_wet : Int32) (g_harvest : Int32) (g_draw : Int32) (r : Int32) (h0 : fX4_worthOfAll t_people t_kinds t_loves g_sets g_wet g_harvest = some (r)) : CI l yX4_worthOfAll cX4_worthOfAll 3 (some .int) 4 96 d cy [.ref t0] (List.flatten [wT cy t0 t1 t2 g0 t_people t_fewest t_kinds t_loves, wG cy g0 g1 g2 g3 g_many g_sets g_chalk g_wet g_harvest g_draw]) (List.flatten [wT cy t0 t1 t2 g0 t_people t_fewest t_kinds t_loves, wG cy g0 g1 g2 g3 g_many g_sets g_chalk g_wet g_harvest g_draw]) r := by
  refine CI.of (by decide) (Nat.le_of_ble_eq_true rfl) ?_
  intro p e s m args below meth c A ls Q F hret hw hl
  have hx := F.1
  have hb := F.2.1
  have hl : lv_has ls 3 [(0, .ref t0)] := hl
  rw [fX4_worthOfAll] at h0
  refine lv_iconst (v := 0) hx hb dX4_worthOfAll_0 (by decide) ?_
  refine lv_istore_n (lv' := [(1, .int 0), (0, .ref t0)]) hx hb dX4_worthOfAll_1 rfl hl (by decide) rfl (fun ls hl => ?_)
  refine lv_iconst (v := 0) hx hb dX4_worthOfAll_2 (by decide) ?_
  refine lv_istore_n (lv' := [(2, .int 0), (1, .int 0), (0, .ref t0)]) hx hb dX4_worthOfAll_3 rfl hl (by decide) rfl (fun ls hl => ?_)
  obtain ⟨o14, h18, h19⟩ := ob1 h0
  clear h0
  have kont11 : ∀ (H : Heap) (locs : List Loc) (ls : Array Slot), Wd d A s.heap (List.flatten [wT cy t0 t1 t2 g0 t_people t_fewest t_kinds t_loves, wG cy g0 g1 g2 g3 g_many g_sets g_chalk g_wet g_harvest g_draw]) H locs → lv_has ls 3 [(1, .int o14)] → W p l e (rmo 4 96) s m args below meth c H locs 0 0 Q (F0 m 26 ls []) := by
    intro H locs ls hw hl
    clear h18
    refine lv_iload_n hx hb dX4_worthOfAll_26 rfl (lv_at hl 0 rfl) ?_
    obtain rfl := inj1 h19
    exact hret _ _ _ _ hw dX4_worthOfAll_27
  clear h19
  have loop13 : ∀ (n : Nat) (v9 : Int32) (v10 : Int32) (H : Heap) (locs : List Loc) (ls : Array Slot), Wd d A s.heap (List.flatten [wT cy t0 t1 t2 g0 t_people t_fewest t_kinds t_loves, wG cy g0 g1 g2 g3 g_many g_sets g_chalk g_wet g_harvest g_draw]) H locs → lv_has ls 3 [(0, .ref t0), (1, .int v9), (2, .int v10)] → fX4_worthOfAll_L4 g_harvest g_sets g_wet t_kinds t_loves t_people n v9 v10 = some (o14) → W p l e (rmo 4 96) s m args below meth c H locs 0 0 Q (F0 m 4 ls []) := by
    intro n
    induction n with
    | zero =>
      intro v9 v10 H locs ls hw hl h20
      rw [fX4_worthOfAll_L4] at h20
      cases h20
    | succ n ih12 =>
      intro v9 v10 H locs ls hw hl h21
      rw [fX4_worthOfAll_L4] at h21
      refine lv_iload_n hx hb dX4_worthOfAll_4 rfl (lv_at hl 2 rfl) ?_
      refine lv_aload_n hx hb dX4_worthOfAll_5 rfl (lv_at hl 0 rfl) ?_
      refine g_get F inG4 hw 0 rfl rfl 0 (by decide) t_104 (fun _ h9 => h9) rfl dX4_worthOfAll_6 ?_
      refine lv_icmp_ge (tgt := 26) hx hb dX4_worthOfAll_9 (by decide) (fun c15 => ?_) (fun c15 => ?_)
      · rw [if_pos c15] at h21
        obtain rfl := inj1 h21
        exact kont11 _ _ _ hw (lv_sub hl [1] rfl)
      · rw [if_neg c15] at h21
        refine lv_iload_n hx hb dX4_worthOfAll_12 rfl (lv_at hl 1 rfl) ?_
        refine lv_aload_n hx hb dX4_worthOfAll_13 rfl (lv_at hl 0 rfl) ?_
        refine lv_iload_n hx hb dX4_worthOfAll_14 rfl (lv_at hl 2 rfl) ?_
        obtain ⟨r16, k17, h22⟩ := ob1 h21
        clear h21
        refine g_vi F (cX4_worthOf_ok l d cy t0 t1 t2 g0 g1 g2 g3 t_people t_fewest t_kinds t_loves g_many g_sets g_chalk g_wet g_harvest g_draw v10 r16 k17) cal_X4_worthOf t_463 rfl ⟨by decide, by decide⟩ hw (w' := List.flatten [wT cy t0 t1 t2 g0 t_people t_fewest t_kinds t_loves, wG cy g0 g1 g2 g3 g_many g_sets g_chalk g_wet g_harvest g_draw]) Cut.all 0 4 rfl rfl hl.1 (Nat.le_of_ble_eq_true rfl) rfl dX4_worthOfAll_15 (fun H locs hw => ?_)
        refine lv_iadd hx hb dX4_worthOfAll_18 ?_
        refine lv_istore_n (lv' := [(1, .int (v9 + r16)), (0, .ref t0), (2, .int v10)]) hx hb dX4_worthOfAll_19 rfl hl (by decide) rfl (fun ls hl => ?_)
        refine lv_iinc (v := (v10 + 1)) (lv' := [(2, .int (v10 + 1)), (1, .int (v9 + r16)), (0, .ref t0)]) hx hb dX4_worthOfAll_20 hl (k := 2) rfl rfl (by decide) rfl (fun ls hl => ?_)
        refine lv_goto (tgt := 4) hx hb dX4_worthOfAll_23 (by decide) ?_
        exact ih12 (v9 + r16) (v10 + 1) _ _ _ hw (lv_sub hl [2, 1, 0] rfl) h22
  exact loop13 fl 0 0 _ _ _ hw (lv_sub hl [2, 1, 0] rfl) h18
theorem cal_X4_worthOfAllOn : CalV yX4_worthOfAllOn cX4_worthOfAllOn 4 (some .int) RX4 1 := ⟨t_565, t_563, t_564, t_38, by decide +kernel⟩
set_option maxHeartbeats 4000000 in
set_option maxRecDepth 100000 in
theorem cX4_worthOfAllOn_ok (l : Launch) (d : va_G) (cy : Nat → ClassId) (t0 t1 t2 g0 g1 g2 g3 : Nat) (t_people : Int32) (t_fewest : Int32) (t_kinds : Nat → Int32) (t_loves : Nat → Int32) (g_many : Nat → Int32) (g_sets : Nat → Int32) (g_chalk : Nat → Int32) (g_wet : Int32) (g_harvest : Int32) (g_draw : Int32) (i1 : Int32) (r : Int32) (h0 : fX4_worthOfAllOn t_people t_kinds t_loves g_sets g_wet g_harvest i1 = some (r)) : CI l yX4_worthOfAllOn cX4_worthOfAllOn 4 (some .int) 3 72 d cy [.ref t0, .int i1] (List.flatten [wT cy t0 t1 t2 g0 t_people t_fewest t_kinds t_loves, wG cy g0 g1 g2 g3 g_many g_sets g_chalk g_wet g_harvest g_draw]) (List.flatten [wT cy t0 t1 t2 g0 t_people t_fewest t_kinds t_loves, wG cy g0 g1 g2 g3 g_many g_sets g_chalk g_wet g_harvest g_draw]) r := by
  refine CI.of (by decide) (Nat.le_of_ble_eq_true rfl) ?_
  intro p e s m args below meth c A ls Q F hret hw hl
  have hx := F.1
  have hb := F.2.1
  have hl : lv_has ls 4 [(0, .ref t0), (1, .int i1)] := hl
  rw [fX4_worthOfAllOn] at h0
  refine lv_iconst (v := 0) hx hb dX4_worthOfAllOn_0 (by decide) ?_
  refine lv_istore_n (lv' := [(2, .int 0), (0, .ref t0), (1, .int i1)]) hx hb dX4_worthOfAllOn_1 rfl hl (by decide) rfl (fun ls hl => ?_)
  refine lv_iconst (v := 0) hx hb dX4_worthOfAllOn_2 (by decide) ?_
  refine lv_istore_n (lv' := [(3, .int 0), (2, .int 0), (0, .ref t0), (1, .int i1)]) hx hb dX4_worthOfAllOn_3 rfl hl (by decide) rfl (fun ls hl => ?_)
  obtain ⟨o18, h24, h25⟩ := ob1 h0
  clear h0
  have kont15 : ∀ (H : Heap) (locs : List Loc) (ls : Array Slot), Wd d A s.heap (List.flatten [wT cy t0 t1 t2 g0 t_people t_fewest t_kinds t_loves, wG cy g0 g1 g2 g3 g_many g_sets g_chalk g_wet g_harvest g_draw]) H locs → lv_has ls 4 [(2, .int o18)] → W p l e (rmo 3 72) s m args below meth c H locs 0 0 Q (F0 m 40 ls []) := by
    intro H locs ls hw hl
    clear h24
    refine lv_iload_n hx hb dX4_worthOfAllOn_40 rfl (lv_at hl 0 rfl) ?_
    obtain rfl := inj1 h25
    exact hret _ _ _ _ hw dX4_worthOfAllOn_41
  clear h25
  have loop17 : ∀ (n : Nat) (v13 : Int32) (v14 : Int32) (H : Heap) (locs : List Loc) (ls : Array Slot), Wd d A s.heap (List.flatten [wT cy t0 t1 t2 g0 t_people t_fewest t_kinds t_loves, wG cy g0 g1 g2 g3 g_many g_sets g_chalk g_wet g_harvest g_draw]) H locs → lv_has ls 4 [(0, .ref t0), (1, .int i1), (2, .int v13), (3, .int v14)] → fX4_worthOfAllOn_L4 g_harvest g_sets g_wet i1 t_kinds t_loves t_people n v13 v14 = some (o18) → W p l e (rmo 3 72) s m args below meth c H locs 0 0 Q (F0 m 4 ls []) := by
    intro n
    induction n with
    | zero =>
      intro v13 v14 H locs ls hw hl h26
      rw [fX4_worthOfAllOn_L4] at h26
      cases h26
    | succ n ih16 =>
      intro v13 v14 H locs ls hw hl h27
      rw [fX4_worthOfAllOn_L4] at h27
      refine lv_iload_n hx hb dX4_worthOfAllOn_4 rfl (lv_at hl 3 rfl) ?_
      refine lv_aload_n hx hb dX4_worthOfAllOn_5 rfl (lv_at hl 0 rfl) ?_
      refine g_get F inG4 hw 0 rfl rfl 0 (by decide) t_104 (fun _ h9 => h9) rfl dX4_worthOfAllOn_6 ?_
      refine lv_icmp_ge (tgt := 40) hx hb dX4_worthOfAllOn_9 (by decide) (fun c19 => ?_) (fun c19 => ?_)
      · rw [if_pos c19] at h27
        obtain rfl := inj1 h27
        exact kont15 _ _ _ hw (lv_sub hl [2] rfl)
      · rw [if_neg c19] at h27
        refine lv_iload_n hx hb dX4_worthOfAllOn_12 rfl (lv_at hl 2 rfl) ?_
        refine lv_aload_n hx hb dX4_worthOfAllOn_13 rfl (lv_at hl 0 rfl) ?_
        refine lv_iload_n hx hb dX4_worthOfAllOn_14 rfl (lv_at hl 3 rfl) ?_
        refine lv_iconst (v := 2) hx hb dX4_worthOfAllOn_15 (by decide) ?_
        refine lv_iload_n hx hb dX4_worthOfAllOn_16 rfl (lv_at hl 1 rfl) ?_
        refine lv_imul hx hb dX4_worthOfAllOn_17 ?_
        obtain ⟨r20, k21, h28⟩ := ob1 h27
        clear h27
        refine g_vi F (cX4_worthOfHalf_ok l d cy t0 t1 t2 g0 g1 g2 g3 t_people t_fewest t_kinds t_loves g_many g_sets g_chalk g_wet g_harvest g_draw v14 (2 * i1) r20 k21) cal_X4_worthOfHalf t_514 rfl ⟨by decide, by decide⟩ hw (w' := List.flatten [wT cy t0 t1 t2 g0 t_people t_fewest t_kinds t_loves, wG cy g0 g1 g2 g3 g_many g_sets g_chalk g_wet g_harvest g_draw]) Cut.all 0 4 rfl rfl hl.1 (Nat.le_of_ble_eq_true rfl) rfl dX4_worthOfAllOn_18 (fun H locs hw => ?_)
        refine lv_aload_n hx hb dX4_worthOfAllOn_21 rfl (lv_at hl 0 rfl) ?_
        refine lv_iload_n hx hb dX4_worthOfAllOn_22 rfl (lv_at hl 3 rfl) ?_
        refine lv_iconst (v := 2) hx hb dX4_worthOfAllOn_23 (by decide) ?_
        refine lv_iload_n hx hb dX4_worthOfAllOn_24 rfl (lv_at hl 1 rfl) ?_
        refine lv_imul hx hb dX4_worthOfAllOn_25 ?_
        refine lv_iconst (v := 1) hx hb dX4_worthOfAllOn_26 (by decide) ?_
        refine lv_iadd hx hb dX4_worthOfAllOn_27 ?_
        obtain ⟨r22, k23, h29⟩ := ob1 h28
        clear h28
        refine g_vi F (cX4_worthOfHalf_ok l d cy t0 t1 t2 g0 g1 g2 g3 t_people t_fewest t_kinds t_loves g_many g_sets g_chalk g_wet g_harvest g_draw v14 ((2 * i1) + 1) r22 k23) cal_X4_worthOfHalf t_514 rfl ⟨by decide, by decide⟩ hw (w' := List.flatten [wT cy t0 t1 t2 g0 t_people t_fewest t_kinds t_loves, wG cy g0 g1 g2 g3 g_many g_sets g_chalk g_wet g_harvest g_draw]) Cut.all 0 4 rfl rfl hl.1 (Nat.le_of_ble_eq_true rfl) rfl dX4_worthOfAllOn_28 (fun H locs hw => ?_)
        refine lv_iadd hx hb dX4_worthOfAllOn_31 ?_
        refine lv_iadd hx hb dX4_worthOfAllOn_32 ?_
        refine lv_istore_n (lv' := [(2, .int (v13 + (r20 + r22))), (0, .ref t0), (1, .int i1), (3, .int v14)]) hx hb dX4_worthOfAllOn_33 rfl hl (by decide) rfl (fun ls hl => ?_)
        refine lv_iinc (v := (v14 + 1)) (lv' := [(3, .int (v14 + 1)), (2, .int (v13 + (r20 + r22))), (0, .ref t0), (1, .int i1)]) hx hb dX4_worthOfAllOn_34 hl (k := 3) rfl rfl (by decide) rfl (fun ls hl => ?_)
        refine lv_goto (tgt := 4) hx hb dX4_worthOfAllOn_37 (by decide) ?_
        exact ih16 (v13 + (r20 + r22)) (v14 + 1) _ _ _ hw (lv_sub hl [2, 3, 1, 0] rfl) h29
  exact loop17 fl 0 0 _ _ _ hw (lv_sub hl [2, 3, 1, 0] rfl) h24
theorem cal_X4_chalkOfAll : CalV yX4_chalkOfAll cX4_chalkOfAll 3 (some .int) RX4 0 := ⟨t_467, t_465, t_466, t_38, by decide +kernel⟩
set_option maxHeartbeats 4000000 in
set_option maxRecDepth 100000 in
theorem cX4_chalkOfAll_ok (l : Launch) (d : va_G) (cy : Nat → ClassId) (t0 t1 t2 g0 g1 g2 g3 : Nat) (t_people : Int32) (t_fewest : Int32) (t_kinds : Nat → Int32) (t_loves : Nat → Int32) (g_many : Nat → Int32) (g_sets : Nat → Int32) (g_chalk : Nat → Int32) (g_wet : Int32) (g_harvest : Int32) (g_draw : Int32) (r : Int32) (h0 : fX4_chalkOfAll t_people g_chalk = some (r)) : CI l yX4_chalkOfAll cX4_chalkOfAll 3 (some .int) 0 0 d cy [.ref t0] (List.flatten [wT cy t0 t1 t2 g0 t_people t_fewest t_kinds t_loves, wG cy g0 g1 g2 g3 g_many g_sets g_chalk g_wet g_harvest g_draw]) (List.flatten [wT cy t0 t1 t2 g0 t_people t_fewest t_kinds t_loves, wG cy g0 g1 g2 g3 g_many g_sets g_chalk g_wet g_harvest g_draw]) r := by
  refine CI.of (by decide) (Nat.le_of_ble_eq_true rfl) ?_
  intro p e s m args below meth c A ls Q F hret hw hl
  have hx := F.1
  have hb := F.2.1
  have hl : lv_has ls 3 [(0, .ref t0)] := hl
  rw [fX4_chalkOfAll] at h0
  refine lv_iconst (v := 0) hx hb dX4_chalkOfAll_0 (by decide) ?_
  refine lv_istore_n (lv' := [(1, .int 0), (0, .ref t0)]) hx hb dX4_chalkOfAll_1 rfl hl (by decide) rfl (fun ls hl => ?_)
  refine lv_iconst (v := 0) hx hb dX4_chalkOfAll_2 (by decide) ?_
  refine lv_istore_n (lv' := [(2, .int 0), (1, .int 0), (0, .ref t0)]) hx hb dX4_chalkOfAll_3 rfl hl (by decide) rfl (fun ls hl => ?_)
  obtain ⟨o14, h18, h19⟩ := ob1 h0
  clear h0
  have kont11 : ∀ (H : Heap) (locs : List Loc) (ls : Array Slot), Wd d A s.heap (List.flatten [wT cy t0 t1 t2 g0 t_people t_fewest t_kinds t_loves, wG cy g0 g1 g2 g3 g_many g_sets g_chalk g_wet g_harvest g_draw]) H locs → lv_has ls 3 [(1, .int o14)] → W p l e (rmo 0 0) s m args below meth c H locs 0 0 Q (F0 m 30 ls []) := by
    intro H locs ls hw hl
    clear h18
    refine lv_iload_n hx hb dX4_chalkOfAll_30 rfl (lv_at hl 0 rfl) ?_
    obtain rfl := inj1 h19
    exact hret _ _ _ _ hw dX4_chalkOfAll_31
  clear h19
  have loop13 : ∀ (n : Nat) (v9 : Int32) (v10 : Int32) (H : Heap) (locs : List Loc) (ls : Array Slot), Wd d A s.heap (List.flatten [wT cy t0 t1 t2 g0 t_people t_fewest t_kinds t_loves, wG cy g0 g1 g2 g3 g_many g_sets g_chalk g_wet g_harvest g_draw]) H locs → lv_has ls 3 [(0, .ref t0), (1, .int v9), (2, .int v10)] → fX4_chalkOfAll_L4 g_chalk t_people n v9 v10 = some (o14) → W p l e (rmo 0 0) s m args below meth c H locs 0 0 Q (F0 m 4 ls []) := by
    intro n
    induction n with
    | zero =>
      intro v9 v10 H locs ls hw hl h20
      rw [fX4_chalkOfAll_L4] at h20
      cases h20
    | succ n ih12 =>
      intro v9 v10 H locs ls hw hl h21
      rw [fX4_chalkOfAll_L4] at h21
      refine lv_iload_n hx hb dX4_chalkOfAll_4 rfl (lv_at hl 2 rfl) ?_
      refine lv_aload_n hx hb dX4_chalkOfAll_5 rfl (lv_at hl 0 rfl) ?_
      refine g_get F inG4 hw 0 rfl rfl 0 (by decide) t_104 (fun _ h9 => h9) rfl dX4_chalkOfAll_6 ?_
      refine lv_icmp_ge (tgt := 30) hx hb dX4_chalkOfAll_9 (by decide) (fun c15 => ?_) (fun c15 => ?_)
      · rw [if_pos c15] at h21
        obtain rfl := inj1 h21
        exact kont11 _ _ _ hw (lv_sub hl [1] rfl)
      · rw [if_neg c15] at h21
        refine lv_iload_n hx hb dX4_chalkOfAll_12 rfl (lv_at hl 1 rfl) ?_
        refine lv_aload_n hx hb dX4_chalkOfAll_13 rfl (lv_at hl 0 rfl) ?_
        refine g_get F inG4 hw 0 rfl rfl 4 (by decide) t_114 (fun _ h9 => h9) rfl dX4_chalkOfAll_14 ?_
        refine g_get F inG0 hw 3 rfl rfl 2 (by decide) t_77 (fun _ h9 => h9) rfl dX4_chalkOfAll_17 ?_
        refine lv_iload_n hx hb dX4_chalkOfAll_20 rfl (lv_at hl 2 rfl) ?_
        obtain ⟨j16, k17, h22⟩ := ob1 h21
        clear h21
        refine g_iald F hw 6 rfl k17 dX4_chalkOfAll_21 ?_
        refine lv_iadd hx hb dX4_chalkOfAll_22 ?_
        refine lv_istore_n (lv' := [(1, .int (v9 + (g_chalk j16))), (0, .ref t0), (2, .int v10)]) hx hb dX4_chalkOfAll_23 rfl hl (by decide) rfl (fun ls hl => ?_)
        refine lv_iinc (v := (v10 + 1)) (lv' := [(2, .int (v10 + 1)), (1, .int (v9 + (g_chalk j16))), (0, .ref t0)]) hx hb dX4_chalkOfAll_24 hl (k := 2) rfl rfl (by decide) rfl (fun ls hl => ?_)
        refine lv_goto (tgt := 4) hx hb dX4_chalkOfAll_27 (by decide) ?_
        exact ih12 (v9 + (g_chalk j16)) (v10 + 1) _ _ _ hw (lv_sub hl [2, 1, 0] rfl) h22
  exact loop13 fl 0 0 _ _ _ hw (lv_sub hl [2, 1, 0] rfl) h18
theorem cal_X4_dearestHalf : CalV yX4_dearestHalf cX4_dearestHalf 5 (some .int) RX4 1 := ⟨t_513, t_511, t_512, t_38, by decide +kernel⟩
set_option maxHeartbeats 4000000 in
set_option maxRecDepth 100000 in
theorem cX4_dearestHalf_ok (l : Launch) (d : va_G) (cy : Nat → ClassId) (t0 t1 t2 g0 g1 g2 g3 : Nat) (t_people : Int32) (t_fewest : Int32) (t_kinds : Nat → Int32) (t_loves : Nat → Int32) (g_many : Nat → Int32) (g_sets : Nat → Int32) (g_chalk : Nat → Int32) (g_wet : Int32) (g_harvest : Int32) (g_draw : Int32) (i1 : Int32) (r : Int32) (h0 : fX4_dearestHalf t_kinds t_loves g_many g_sets g_wet g_harvest i1 = some (r)) : CI l yX4_dearestHalf cX4_dearestHalf 5 (some .int) 3 72 d cy [.ref t0, .int i1] (List.flatten [wT cy t0 t1 t2 g0 t_people t_fewest t_kinds t_loves, wG cy g0 g1 g2 g3 g_many g_sets g_chalk g_wet g_harvest g_draw]) (List.flatten [wT cy t0 t1 t2 g0 t_people t_fewest t_kinds t_loves, wG cy g0 g1 g2 g3 g_many g_sets g_chalk g_wet g_harvest g_draw]) r := by
  refine CI.of (by decide) (Nat.le_of_ble_eq_true rfl) ?_
  intro p e s m args below meth c A ls Q F hret hw hl
  have hx := F.1
  have hb := F.2.1
  have hl : lv_has ls 5 [(0, .ref t0), (1, .int i1)] := hl
  rw [fX4_dearestHalf] at h0
  refine lv_bipush (v := (-4)) hx hb dX4_dearestHalf_0 (by decide) ?_
  refine lv_istore_n (lv' := [(2, .int (-4)), (0, .ref t0), (1, .int i1)]) hx hb dX4_dearestHalf_2 rfl hl (by decide) rfl (fun ls hl => ?_)
  refine lv_iconst (v := (-1)) hx hb dX4_dearestHalf_3 (by decide) ?_
  refine lv_istore_n (lv' := [(3, .int (-1)), (2, .int (-4)), (0, .ref t0), (1, .int i1)]) hx hb dX4_dearestHalf_4 rfl hl (by decide) rfl (fun ls hl => ?_)
  refine lv_iconst (v := 0) hx hb dX4_dearestHalf_5 (by decide) ?_
  refine lv_istore (lv' := [(4, .int 0), (3, .int (-1)), (2, .int (-4)), (0, .ref t0), (1, .int i1)]) hx hb dX4_dearestHalf_6 hl (by decide) rfl (fun ls hl => ?_)
  obtain ⟨o46, h65, h66⟩ := ob1 h0
  clear h0
  have kont43 : ∀ (H : Heap) (locs : List Loc) (ls : Array Slot), Wd d A s.heap (List.flatten [wT cy t0 t1 t2 g0 t_people t_fewest t_kinds t_loves, wG cy g0 g1 g2 g3 g_many g_sets g_chalk g_wet g_harvest g_draw]) H locs → lv_has ls 5 [(2, .int o46)] → W p l e (rmo 3 72) s m args below meth c H locs 0 0 Q (F0 m 56 ls []) := by
    intro H locs ls hw hl
    clear h65
    refine lv_iload_n hx hb dX4_dearestHalf_56 rfl (lv_at hl 0 rfl) ?_
    obtain rfl := inj1 h66
    exact hret _ _ _ _ hw dX4_dearestHalf_57
  clear h66
  have loop45 : ∀ (n : Nat) (v40 : Int32) (v41 : Int32) (v42 : Int32) (H : Heap) (locs : List Loc) (ls : Array Slot), Wd d A s.heap (List.flatten [wT cy t0 t1 t2 g0 t_people t_fewest t_kinds t_loves, wG cy g0 g1 g2 g3 g_many g_sets g_chalk g_wet g_harvest g_draw]) H locs → lv_has ls 5 [(0, .ref t0), (1, .int i1), (2, .int v40), (3, .int v41), (4, .int v42)] → fX4_dearestHalf_L8 g_harvest g_many g_sets g_wet i1 t_kinds t_loves n v40 v41 v42 = some (o46) → W p l e (rmo 3 72) s m args below meth c H locs 0 0 Q (F0 m 8 ls []) := by
    intro n
    induction n with
    | zero =>
      intro v40 v41 v42 H locs ls hw hl h67
      rw [fX4_dearestHalf_L8] at h67
      cases h67
    | succ n ih44 =>
      intro v40 v41 v42 H locs ls hw hl h68
      rw [fX4_dearestHalf_L8] at h68
      refine lv_iload hx hb dX4_dearestHalf_8 (lv_at hl 4 rfl) ?_
      refine lv_bipush (v := 12) hx hb dX4_dearestHalf_10 (by decide) ?_
      refine lv_icmp_ge (tgt := 56) hx hb dX4_dearestHalf_12 (by decide) (fun c47 => ?_) (fun c47 => ?_)
      · rw [if_pos c47] at h68
        obtain rfl := inj1 h68
        exact kont43 _ _ _ hw (lv_sub hl [2] rfl)
      · rw [if_neg c47] at h68
        refine lv_aload_n hx hb dX4_dearestHalf_15 rfl (lv_at hl 0 rfl) ?_
        refine g_get F inG4 hw 0 rfl rfl 4 (by decide) t_114 (fun _ h9 => h9) rfl dX4_dearestHalf_16 ?_
        refine lv_iload_n hx hb dX4_dearestHalf_19 rfl (lv_at hl 1 rfl) ?_
        refine lv_iload hx hb dX4_dearestHalf_20 (lv_at hl 4 rfl) ?_
        obtain ⟨r48, k49, h69⟩ := ob1 h68
        clear h68
        refine g_vi F (cX0_manyOf_ok l d cy g0 g1 g2 g3 g_many g_sets g_chalk g_wet g_harvest g_draw i1 v42 r48 k49) cal_X0_manyOf t_481 rfl ⟨by decide, by decide⟩ hw (w' := List.flatten [wT cy t0 t1 t2 g0 t_people t_fewest t_kinds t_loves, wG cy g0 g1 g2 g3 g_many g_sets g_chalk g_wet g_harvest g_draw]) (SCut.cut (SCut.one (SCut.skip (SCut.take SCut.rf SCut.none)))) 0 0 rfl rfl hl.1 (Nat.le_of_ble_eq_true rfl) rfl dX4_dearestHalf_22 (fun H locs hw => ?_)
        obtain ⟨x56, x57, h70, h71⟩ := ob2 h69
        clear h69
        have kont58 : ∀ (H : Heap) (locs : List Loc) (ls : Array Slot), Wd d A s.heap (List.flatten [wT cy t0 t1 t2 g0 t_people t_fewest t_kinds t_loves, wG cy g0 g1 g2 g3 g_many g_sets g_chalk g_wet g_harvest g_draw]) H locs → lv_has ls 5 [(0, .ref t0), (1, .int i1), (2, .int x56), (3, .int x57), (4, .int v42)] → W p l e (rmo 3 72) s m args below meth c H locs 0 0 Q (F0 m 50 ls []) := by
          intro H locs ls hw hl
          clear h70
          refine lv_iinc (v := (v42 + 1)) (lv' := [(4, .int (v42 + 1)), (0, .ref t0), (1, .int i1), (2, .int x56), (3, .int x57)]) hx hb dX4_dearestHalf_50 hl (k := 4) rfl rfl (by decide) rfl (fun ls hl => ?_)
          refine lv_goto (tgt := 8) hx hb dX4_dearestHalf_53 (by decide) ?_
          exact ih44 x56 x57 (v42 + 1) _ _ _ hw (lv_sub hl [1, 2, 3, 4, 0] rfl) h71
        clear h71
        refine lv_if_le (tgt := 50) hx hb dX4_dearestHalf_25 (by decide) (fun c59 => ?_) (fun c59 => ?_)
        · rw [if_pos c59] at h70
          obtain ⟨rfl, rfl⟩ := inj2 h70
          exact kont58 _ _ _ hw (lv_sub hl [0, 1, 2, 3, 4] rfl)
        · rw [if_neg c59] at h70
          refine lv_aload_n hx hb dX4_dearestHalf_28 rfl (lv_at hl 0 rfl) ?_
          refine lv_iload_n hx hb dX4_dearestHalf_29 rfl (lv_at hl 1 rfl) ?_
          refine lv_iload hx hb dX4_dearestHalf_30 (lv_at hl 4 rfl) ?_
          obtain ⟨r60, k61, h72⟩ := ob1 h70
          clear h70
          refine g_vi F (cX4_worthOfHalf_ok l d cy t0 t1 t2 g0 g1 g2 g3 t_people t_fewest t_kinds t_loves g_many g_sets g_chalk g_wet g_harvest g_draw i1 v42 r60 k61) cal_X4_worthOfHalf t_514 rfl ⟨by decide, by decide⟩ hw (w' := List.flatten [wT cy t0 t1 t2 g0 t_people t_fewest t_kinds t_loves, wG cy g0 g1 g2 g3 g_many g_sets g_chalk g_wet g_harvest g_draw]) Cut.all 0 4 rfl rfl hl.1 (Nat.le_of_ble_eq_true rfl) rfl dX4_dearestHalf_32 (fun H locs hw => ?_)
          refine lv_iload_n hx hb dX4_dearestHalf_35 rfl (lv_at hl 3 rfl) ?_
          refine lv_icmp_le (tgt := 50) hx hb dX4_dearestHalf_36 (by decide) (fun c62 => ?_) (fun c62 => ?_)
          · rw [if_pos c62] at h72
            obtain ⟨rfl, rfl⟩ := inj2 h72
            exact kont58 _ _ _ hw (lv_sub hl [0, 1, 2, 3, 4] rfl)
          · rw [if_neg c62] at h72
            refine lv_aload_n hx hb dX4_dearestHalf_39 rfl (lv_at hl 0 rfl) ?_
            refine lv_iload_n hx hb dX4_dearestHalf_40 rfl (lv_at hl 1 rfl) ?_
            refine lv_iload hx hb dX4_dearestHalf_41 (lv_at hl 4 rfl) ?_
            obtain ⟨r63, k64, h73⟩ := ob1 h72
            clear h72
            refine g_vi F (cX4_worthOfHalf_ok l d cy t0 t1 t2 g0 g1 g2 g3 t_people t_fewest t_kinds t_loves g_many g_sets g_chalk g_wet g_harvest g_draw i1 v42 r63 k64) cal_X4_worthOfHalf t_514 rfl ⟨by decide, by decide⟩ hw (w' := List.flatten [wT cy t0 t1 t2 g0 t_people t_fewest t_kinds t_loves, wG cy g0 g1 g2 g3 g_many g_sets g_chalk g_wet g_harvest g_draw]) Cut.all 0 4 rfl rfl hl.1 (Nat.le_of_ble_eq_true rfl) rfl dX4_dearestHalf_43 (fun H locs hw => ?_)
            refine lv_istore_n (lv' := [(3, .int r63), (0, .ref t0), (1, .int i1), (2, .int v40), (4, .int v42)]) hx hb dX4_dearestHalf_46 rfl hl (by decide) rfl (fun ls hl => ?_)
            refine lv_iload hx hb dX4_dearestHalf_47 (lv_at hl 4 rfl) ?_
            refine lv_istore_n (lv' := [(2, .int v42), (3, .int r63), (0, .ref t0), (1, .int i1), (4, .int v42)]) hx hb dX4_dearestHalf_49 rfl hl (by decide) rfl (fun ls hl => ?_)
            obtain ⟨rfl, rfl⟩ := inj2 h73
            exact kont58 _ _ _ hw (lv_sub hl [2, 3, 0, 1, 4] rfl)
  exact loop45 fl (-4) (-1) 0 _ _ _ hw (lv_sub hl [3, 4, 2, 1, 0] rfl) h65
theorem cal_X4_maySell : CalV yX4_maySell cX4_maySell 7 (some .boolean) RX4 4 := ⟨t_480, t_478, t_479, t_38, by decide +kernel⟩
set_option maxHeartbeats 4000000 in
set_option maxRecDepth 100000 in
theorem cX4_maySell_ok (l : Launch) (d : va_G) (cy : Nat → ClassId) (t0 t1 t2 g0 g1 g2 g3 : Nat) (t_people : Int32) (t_fewest : Int32) (t_kinds : Nat → Int32) (t_loves : Nat → Int32) (g_many : Nat → Int32) (g_sets : Nat → Int32) (g_chalk : Nat → Int32) (g_wet : Int32) (g_harvest : Int32) (g_draw : Int32) (i1 : Int32) (i2 : Int32) (i3 : Int32) (i4 : Int32) (r : Int32) (h0 : fX4_maySell t_fewest g_many g_sets g_chalk i1 i2 i3 i4 = some (r)) : CI l yX4_maySell cX4_maySell 7 (some .boolean) 1 22 d cy [.ref t0, .int i1, .int i2, .int i3, .int i4] (List.flatten [wT cy t0 t1 t2 g0 t_people t_fewest t_kinds t_loves, wG cy g0 g1 g2 g3 g_many g_sets g_chalk g_wet g_harvest g_draw]) (List.flatten [wT cy t0 t1 t2 g0 t_people t_fewest t_kinds t_loves, wG cy g0 g1 g2 g3 g_many g_sets g_chalk g_wet g_harvest g_draw]) r := by
  refine CZ.of (by decide) (Nat.le_of_ble_eq_true rfl) ?_
  intro p e s m args below meth c A ls Q F hret hw hl
  have hx := F.1
  have hb := F.2.1
  have hl : lv_has ls 7 [(0, .ref t0), (1, .int i1), (2, .int i2), (3, .int i3), (4, .int i4)] := hl
  rw [fX4_maySell] at h0
  refine lv_aload_n hx hb dX4_maySell_0 rfl (lv_at hl 0 rfl) ?_
  refine g_get F inG4 hw 0 rfl rfl 4 (by decide) t_114 (fun _ h9 => h9) rfl dX4_maySell_1 ?_
  refine lv_iload_n hx hb dX4_maySell_4 rfl (lv_at hl 1 rfl) ?_
  refine lv_iload_n hx hb dX4_maySell_5 rfl (lv_at hl 3 rfl) ?_
  obtain ⟨r1, k2, h22⟩ := ob1 h0
  clear h0
  refine g_vi F (cX0_manyOf_ok l d cy g0 g1 g2 g3 g_many g_sets g_chalk g_wet g_harvest g_draw i1 i3 r1 k2) cal_X0_manyOf t_481 rfl ⟨by decide, by decide⟩ hw (w' := List.flatten [wT cy t0 t1 t2 g0 t_people t_fewest t_kinds t_loves, wG cy g0 g1 g2 g3 g_many g_sets g_chalk g_wet g_harvest g_draw]) (SCut.cut (SCut.one (SCut.skip (SCut.take SCut.rf SCut.none)))) 0 0 rfl rfl hl.1 (Nat.le_of_ble_eq_true rfl) rfl dX4_maySell_6 (fun H locs hw => ?_)
  refine lv_istore (lv' := [(5, .int r1), (0, .ref t0), (1, .int i1), (2, .int i2), (3, .int i3), (4, .int i4)]) hx hb dX4_maySell_9 hl (by decide) rfl (fun ls hl => ?_)
  refine lv_iload hx hb dX4_maySell_11 (lv_at hl 0 rfl) ?_
  refine lv_iconst (v := 1) hx hb dX4_maySell_13 (by decide) ?_
  obtain ⟨x9, h23, h24⟩ := ob1 h22
  clear h22
  have kont10 : ∀ (H : Heap) (locs : List Loc) (ls : Array Slot), Wd d A s.heap (List.flatten [wT cy t0 t1 t2 g0 t_people t_fewest t_kinds t_loves, wG cy g0 g1 g2 g3 g_many g_sets g_chalk g_wet g_harvest g_draw]) H locs → lv_has ls 7 [(0, .ref t0), (2, .int i2), (4, .int i4), (5, .int r1)] → W p l e (rmo 1 22) s m args below meth c H locs 0 0 Q (F0 m 41 ls [.int x9]) := by
    intro H locs ls hw hl
    clear h23
    refine lv_istore (lv' := [(6, .int x9), (0, .ref t0), (2, .int i2), (4, .int i4), (5, .int r1)]) hx hb dX4_maySell_41 hl (by decide) rfl (fun ls hl => ?_)
    refine lv_iload hx hb dX4_maySell_43 (lv_at hl 4 rfl) ?_
    refine lv_if_le (tgt := 71) hx hb dX4_maySell_45 (by decide) (fun c17 => ?_) (fun c17 => ?_)
    · rw [if_pos c17] at h24
      refine lv_iconst (v := 0) hx hb dX4_maySell_71 (by decide) ?_
      obtain rfl := inj1 h24
      exact hret _ _ _ _ rfl hw dX4_maySell_72
    · rw [if_neg c17] at h24
      refine lv_iload hx hb dX4_maySell_48 (lv_at hl 0 rfl) ?_
      refine lv_if_eq (tgt := 71) hx hb dX4_maySell_50 (by decide) (fun c18 => ?_) (fun c18 => ?_)
      · rw [if_pos c18] at h24
        refine lv_iconst (v := 0) hx hb dX4_maySell_71 (by decide) ?_
        obtain rfl := inj1 h24
        exact hret _ _ _ _ rfl hw dX4_maySell_72
      · rw [if_neg c18] at h24
        refine lv_aload_n hx hb dX4_maySell_53 rfl (lv_at hl 1 rfl) ?_
        refine g_get F inG4 hw 0 rfl rfl 4 (by decide) t_114 (fun _ h9 => h9) rfl dX4_maySell_54 ?_
        refine g_get F inG0 hw 3 rfl rfl 2 (by decide) t_77 (fun _ h9 => h9) rfl dX4_maySell_57 ?_
        refine lv_iload_n hx hb dX4_maySell_60 rfl (lv_at hl 2 rfl) ?_
        obtain ⟨j19, k20, h25⟩ := ob1 h24
        clear h24
        refine g_iald F hw 6 rfl k20 dX4_maySell_61 ?_
        refine lv_iload hx hb dX4_maySell_62 (lv_at hl 3 rfl) ?_
        refine lv_icmp_lt (tgt := 71) hx hb dX4_maySell_64 (by decide) (fun c21 => ?_) (fun c21 => ?_)
        · rw [if_pos c21] at h25
          refine lv_iconst (v := 0) hx hb dX4_maySell_71 (by decide) ?_
          obtain rfl := inj1 h25
          exact hret _ _ _ _ rfl hw dX4_maySell_72
        · rw [if_neg c21] at h25
          refine lv_iconst (v := 1) hx hb dX4_maySell_67 (by decide) ?_
          refine lv_goto (tgt := 72) hx hb dX4_maySell_68 (by decide) ?_
          obtain rfl := inj1 h25
          exact hret _ _ _ _ rfl hw dX4_maySell_72
  clear h24
  refine lv_icmp_gt (tgt := 36) hx hb dX4_maySell_14 (by decide) (fun c11 => ?_) (fun c11 => ?_)
  · rw [if_pos c11] at h23
    refine lv_iconst (v := 1) hx hb dX4_maySell_36 (by decide) ?_
    refine lv_goto (tgt := 41) hx hb dX4_maySell_37 (by decide) ?_
    obtain rfl := inj1 h23
    exact kont10 _ _ _ hw (lv_sub hl [1, 3, 5, 0] rfl)
  · rw [if_neg c11] at h23
    refine lv_aload_n hx hb dX4_maySell_17 rfl (lv_at hl 1 rfl) ?_
    refine g_get F inG4 hw 0 rfl rfl 4 (by decide) t_114 (fun _ h9 => h9) rfl dX4_maySell_18 ?_
    refine g_get F inG0 hw 3 rfl rfl 1 (by decide) t_75 (fun _ h9 => h9) rfl dX4_maySell_21 ?_
    refine lv_iload_n hx hb dX4_maySell_24 rfl (lv_at hl 2 rfl) ?_
    obtain ⟨j12, k13, h26⟩ := ob1 h23
    clear h23
    refine g_iald F hw 5 rfl k13 dX4_maySell_25 ?_
    obtain ⟨r14, k15, h27⟩ := ob1 h26
    clear h26
    refine g_si F (cJ6_bitCount_0f7a4_ok l d cy (g_sets j12) r14 k15) cal_J6_bitCount_0f7a4 t_482 rfl ⟨by decide, by decide⟩ hw (w' := List.flatten [wT cy t0 t1 t2 g0 t_people t_fewest t_kinds t_loves, wG cy g0 g1 g2 g3 g_many g_sets g_chalk g_wet g_harvest g_draw]) Cut.nil hl.1 (Nat.le_of_ble_eq_true rfl) rfl dX4_maySell_26 (fun H locs hw => ?_)
    refine lv_aload_n hx hb dX4_maySell_29 rfl (lv_at hl 1 rfl) ?_
    refine g_get F inG4 hw 0 rfl rfl 1 (by decide) t_107 (fun _ h9 => h9) rfl dX4_maySell_30 ?_
    refine lv_icmp_le (tgt := 40) hx hb dX4_maySell_33 (by decide) (fun c16 => ?_) (fun c16 => ?_)
    · rw [if_pos c16] at h27
      refine lv_iconst (v := 0) hx hb dX4_maySell_40 (by decide) ?_
      obtain rfl := inj1 h27
      exact kont10 _ _ _ hw (lv_sub hl [1, 3, 5, 0] rfl)
    · rw [if_neg c16] at h27
      refine lv_iconst (v := 1) hx hb dX4_maySell_36 (by decide) ?_
      refine lv_goto (tgt := 41) hx hb dX4_maySell_37 (by decide) ?_
      obtain rfl := inj1 h27
      exact kont10 _ _ _ hw (lv_sub hl [1, 3, 5, 0] rfl)
theorem cal_X4_gainOfSale : CalV yX4_gainOfSale cX4_gainOfSale 6 (some .int) RX4 3 := ⟨t_561, t_559, t_560, t_38, by decide +kernel⟩
set_option maxHeartbeats 4000000 in
set_option maxRecDepth 100000 in
theorem cX4_gainOfSale_ok (l : Launch) (d : va_G) (cy : Nat → ClassId) (t0 t1 t2 g0 g1 g2 g3 : Nat) (t_people : Int32) (t_fewest : Int32) (t_kinds : Nat → Int32) (t_loves : Nat → Int32) (g_many : Nat → Int32) (g_sets : Nat → Int32) (g_chalk : Nat → Int32) (g_wet : Int32) (g_harvest : Int32) (g_draw : Int32) (i1 : Int32) (i2 : Int32) (i3 : Int32) (r : Int32) (g_many_r : Nat → Int32) (g_sets_r : Nat → Int32) (h0 : fX4_gainOfSale t_people t_kinds t_loves g_many g_sets g_wet g_harvest i1 i2 i3 = some (r, g_many_r, g_sets_r)) : CI l yX4_gainOfSale cX4_gainOfSale 6 (some .int) 4 95 d cy [.ref t0, .int i1, .int i2, .int i3] (List.flatten [wT cy t0 t1 t2 g0 t_people t_fewest t_kinds t_loves, wG cy g0 g1 g2 g3 g_many g_sets g_chalk g_wet g_harvest g_draw]) (List.flatten [wT cy t0 t1 t2 g0 t_people t_fewest t_kinds t_loves, wG cy g0 g1 g2 g3 g_many_r g_sets_r g_chalk g_wet g_harvest g_draw]) r := by
  refine CI.of (by decide) (Nat.le_of_ble_eq_true rfl) ?_
  intro p e s m args below meth c A ls Q F hret hw hl
  have hx := F.1
  have hb := F.2.1
  have hl : lv_has ls 6 [(0, .ref t0), (1, .int i1), (2, .int i2), (3, .int i3)] := hl
  rw [fX4_gainOfSale] at h0
  refine lv_aload_n hx hb dX4_gainOfSale_0 rfl (lv_at hl 0 rfl) ?_
  refine lv_iload_n hx hb dX4_gainOfSale_1 rfl (lv_at hl 3 rfl) ?_
  refine lv_iconst (v := 2) hx hb dX4_gainOfSale_2 (by decide) ?_
  refine lv_idiv hx hb dX4_gainOfSale_3 (by decide) ?_
  obtain ⟨r1, k2, h11⟩ := ob1 h0
  clear h0
  refine g_vi F (cX4_worthOfAllOn_ok l d cy t0 t1 t2 g0 g1 g2 g3 t_people t_fewest t_kinds t_loves g_many g_sets g_chalk g_wet g_harvest g_draw (i3 / 2) r1 k2) cal_X4_worthOfAllOn t_562 rfl ⟨by decide, by decide⟩ hw (w' := List.flatten [wT cy t0 t1 t2 g0 t_people t_fewest t_kinds t_loves, wG cy g0 g1 g2 g3 g_many g_sets g_chalk g_wet g_harvest g_draw]) Cut.all 0 4 rfl rfl hl.1 (Nat.le_of_ble_eq_true rfl) rfl dX4_gainOfSale_4 (fun H locs hw => ?_)
  refine lv_istore (lv' := [(4, .int r1), (0, .ref t0), (1, .int i1), (2, .int i2), (3, .int i3)]) hx hb dX4_gainOfSale_7 hl (by decide) rfl (fun ls hl => ?_)
  refine lv_aload_n hx hb dX4_gainOfSale_9 rfl (lv_at hl 1 rfl) ?_
  refine g_get F inG4 hw 0 rfl rfl 4 (by decide) t_114 (fun _ h9 => h9) rfl dX4_gainOfSale_10 ?_
  refine lv_iload_n hx hb dX4_gainOfSale_13 rfl (lv_at hl 2 rfl) ?_
  refine lv_iload_n hx hb dX4_gainOfSale_14 rfl (lv_at hl 3 rfl) ?_
  refine lv_iload_n hx hb dX4_gainOfSale_15 rfl (lv_at hl 4 rfl) ?_
  obtain ⟨f3, f4, k5, h12⟩ := ob2 h11
  clear h11
  refine g_vv F (cX0_move_ok l d cy g0 g1 g2 g3 g_many g_sets g_chalk g_wet g_harvest g_draw i1 i2 i3 f3 f4 k5) cal_X0_move t_538 rfl ⟨by decide, by decide⟩ hw (w' := List.flatten [wT cy t0 t1 t2 g0 t_people t_fewest t_kinds t_loves, wG cy g0 g1 g2 g3 f3 f4 g_chalk g_wet g_harvest g_draw]) (SCut.cut (SCut.one (SCut.skip (SCut.take SCut.rf SCut.none)))) 0 0 rfl rfl hl.1 (Nat.le_of_ble_eq_true rfl) rfl dX4_gainOfSale_16 (fun H locs hw => ?_)
  refine lv_aload_n hx hb dX4_gainOfSale_19 rfl (lv_at hl 1 rfl) ?_
  refine lv_iload_n hx hb dX4_gainOfSale_20 rfl (lv_at hl 4 rfl) ?_
  refine lv_iconst (v := 2) hx hb dX4_gainOfSale_21 (by decide) ?_
  refine lv_idiv hx hb dX4_gainOfSale_22 (by decide) ?_
  obtain ⟨r6, k7, h13⟩ := ob1 h12
  clear h12
  refine g_vi F (cX4_worthOfAllOn_ok l d cy t0 t1 t2 g0 g1 g2 g3 t_people t_fewest t_kinds t_loves f3 f4 g_chalk g_wet g_harvest g_draw (i3 / 2) r6 k7) cal_X4_worthOfAllOn t_562 rfl ⟨by decide, by decide⟩ hw (w' := List.flatten [wT cy t0 t1 t2 g0 t_people t_fewest t_kinds t_loves, wG cy g0 g1 g2 g3 f3 f4 g_chalk g_wet g_harvest g_draw]) Cut.all 0 4 rfl rfl hl.1 (Nat.le_of_ble_eq_true rfl) rfl dX4_gainOfSale_23 (fun H locs hw => ?_)
  refine lv_istore (lv' := [(5, .int r6), (4, .int r1), (0, .ref t0), (1, .int i1), (2, .int i2), (3, .int i3)]) hx hb dX4_gainOfSale_26 hl (by decide) rfl (fun ls hl => ?_)
  refine lv_aload_n hx hb dX4_gainOfSale_28 rfl (lv_at hl 2 rfl) ?_
  refine g_get F inG4 hw 0 rfl rfl 4 (by decide) t_114 (fun _ h9 => h9) rfl dX4_gainOfSale_29 ?_
  refine lv_iload_n hx hb dX4_gainOfSale_32 rfl (lv_at hl 4 rfl) ?_
  refine lv_iload_n hx hb dX4_gainOfSale_33 rfl (lv_at hl 3 rfl) ?_
  refine lv_iload_n hx hb dX4_gainOfSale_34 rfl (lv_at hl 5 rfl) ?_
  obtain ⟨f8, f9, k10, h14⟩ := ob2 h13
  clear h13
  refine g_vv F (cX0_move_ok l d cy g0 g1 g2 g3 f3 f4 g_chalk g_wet g_harvest g_draw i2 i1 i3 f8 f9 k10) cal_X0_move t_538 rfl ⟨by decide, by decide⟩ hw (w' := List.flatten [wT cy t0 t1 t2 g0 t_people t_fewest t_kinds t_loves, wG cy g0 g1 g2 g3 f8 f9 g_chalk g_wet g_harvest g_draw]) (SCut.cut (SCut.one (SCut.skip (SCut.take SCut.rf SCut.none)))) 0 0 rfl rfl hl.1 (Nat.le_of_ble_eq_true rfl) rfl dX4_gainOfSale_35 (fun H locs hw => ?_)
  refine lv_iload hx hb dX4_gainOfSale_38 (lv_at hl 0 rfl) ?_
  refine lv_iload hx hb dX4_gainOfSale_40 (lv_at hl 1 rfl) ?_
  refine lv_isub hx hb dX4_gainOfSale_42 ?_
  obtain ⟨rfl, rfl, rfl⟩ := inj3 h14
  exact hret _ _ _ _ hw dX4_gainOfSale_43
theorem cal_X4_middleOfSale : CalV yX4_middleOfSale cX4_middleOfSale 8 (some .int) RX4 3 := ⟨t_537, t_535, t_536, t_38, by decide +kernel⟩
set_option maxHeartbeats 4000000 in
set_option maxRecDepth 100000 in
theorem cX4_middleOfSale_ok (l : Launch) (d : va_G) (cy : Nat → ClassId) (t0 t1 t2 g0 g1 g2 g3 : Nat) (t_people : Int32) (t_fewest : Int32) (t_kinds : Nat → Int32) (t_loves : Nat → Int32) (g_many : Nat → Int32) (g_sets : Nat → Int32) (g_chalk : Nat → Int32) (g_wet : Int32) (g_harvest : Int32) (g_draw : Int32) (i1 : Int32) (i2 : Int32) (i3 : Int32) (r : Int32) (g_many_r : Nat → Int32) (g_sets_r : Nat → Int32) (h0 : fX4_middleOfSale t_kinds t_loves g_many g_sets g_wet g_harvest i1 i2 i3 = some (r, g_many_r, g_sets_r)) : CI l yX4_middleOfSale cX4_middleOfSale 8 (some .int) 4 96 d cy [.ref t0, .int i1, .int i2, .int i3] (List.flatten [wT cy t0 t1 t2 g0 t_people t_fewest t_kinds t_loves, wG cy g0 g1 g2 g3 g_many g_sets g_chalk g_wet g_harvest g_draw]) (List.flatten [wT cy t0 t1 t2 g0 t_people t_fewest t_kinds t_loves, wG cy g0 g1 g2 g3 g_many_r g_sets_r g_chalk g_wet g_harvest g_draw]) r := by
  refine CI.of (by decide) (Nat.le_of_ble_eq_true rfl) ?_
  intro p e s m args below meth c A ls Q F hret hw hl
  have hx := F.1
  have hb := F.2.1
  have hl : lv_has ls 8 [(0, .ref t0), (1, .int i1), (2, .int i2), (3, .int i3)] := hl
  rw [fX4_middleOfSale] at h0
  refine lv_aload_n hx hb dX4_middleOfSale_0 rfl (lv_at hl 0 rfl) ?_
  refine lv_iload_n hx hb dX4_middleOfSale_1 rfl (lv_at hl 1 rfl) ?_
  obtain ⟨r1, k2, h15⟩ := ob1 h0
  clear h0
  refine g_vi F (cX4_worthOf_ok l d cy t0 t1 t2 g0 g1 g2 g3 t_people t_fewest t_kinds t_loves g_many g_sets g_chalk g_wet g_harvest g_draw i1 r1 k2) cal_X4_worthOf t_463 rfl ⟨by decide, by decide⟩ hw (w' := List.flatten [wT cy t0 t1 t2 g0 t_people t_fewest t_kinds t_loves, wG cy g0 g1 g2 g3 g_many g_sets g_chalk g_wet g_harvest g_draw]) Cut.all 0 4 rfl rfl hl.1 (Nat.le_of_ble_eq_true rfl) rfl dX4_middleOfSale_2 (fun H locs hw => ?_)
  refine lv_istore (lv' := [(4, .int r1), (0, .ref t0), (1, .int i1), (2, .int i2), (3, .int i3)]) hx hb dX4_middleOfSale_5 hl (by decide) rfl (fun ls hl => ?_)
  refine lv_aload_n hx hb dX4_middleOfSale_7 rfl (lv_at hl 1 rfl) ?_
  refine lv_iload_n hx hb dX4_middleOfSale_8 rfl (lv_at hl 3 rfl) ?_
  obtain ⟨r3, k4, h16⟩ := ob1 h15
  clear h15
  refine g_vi F (cX4_worthOf_ok l d cy t0 t1 t2 g0 g1 g2 g3 t_people t_fewest t_kinds t_loves g_many g_sets g_chalk g_wet g_harvest g_draw i2 r3 k4) cal_X4_worthOf t_463 rfl ⟨by decide, by decide⟩ hw (w' := List.flatten [wT cy t0 t1 t2 g0 t_people t_fewest t_kinds t_loves, wG cy g0 g1 g2 g3 g_many g_sets g_chalk g_wet g_harvest g_draw]) Cut.all 0 4 rfl rfl hl.1 (Nat.le_of_ble_eq_true rfl) rfl dX4_middleOfSale_9 (fun H locs hw => ?_)
  refine lv_istore (lv' := [(5, .int r3), (4, .int r1), (0, .ref t0), (1, .int i1), (2, .int i2), (3, .int i3)]) hx hb dX4_middleOfSale_12 hl (by decide) rfl (fun ls hl => ?_)
  refine lv_aload_n hx hb dX4_middleOfSale_14 rfl (lv_at hl 2 rfl) ?_
  refine g_get F inG4 hw 0 rfl rfl 4 (by decide) t_114 (fun _ h9 => h9) rfl dX4_middleOfSale_15 ?_
  refine lv_iload_n hx hb dX4_middleOfSale_18 rfl (lv_at hl 3 rfl) ?_
  refine lv_iload_n hx hb dX4_middleOfSale_19 rfl (lv_at hl 4 rfl) ?_
  refine lv_iload_n hx hb dX4_middleOfSale_20 rfl (lv_at hl 5 rfl) ?_
  obtain ⟨f5, f6, k7, h17⟩ := ob2 h16
  clear h16
  refine g_vv F (cX0_move_ok l d cy g0 g1 g2 g3 g_many g_sets g_chalk g_wet g_harvest g_draw i1 i2 i3 f5 f6 k7) cal_X0_move t_538 rfl ⟨by decide, by decide⟩ hw (w' := List.flatten [wT cy t0 t1 t2 g0 t_people t_fewest t_kinds t_loves, wG cy g0 g1 g2 g3 f5 f6 g_chalk g_wet g_harvest g_draw]) (SCut.cut (SCut.one (SCut.skip (SCut.take SCut.rf SCut.none)))) 0 0 rfl rfl hl.1 (Nat.le_of_ble_eq_true rfl) rfl dX4_middleOfSale_21 (fun H locs hw => ?_)
  refine lv_iload hx hb dX4_middleOfSale_24 (lv_at hl 1 rfl) ?_
  refine lv_aload_n hx hb dX4_middleOfSale_26 rfl (lv_at hl 2 rfl) ?_
  refine lv_iload_n hx hb dX4_middleOfSale_27 rfl (lv_at hl 3 rfl) ?_
  obtain ⟨r8, k9, h18⟩ := ob1 h17
  clear h17
  refine g_vi F (cX4_worthOf_ok l d cy t0 t1 t2 g0 g1 g2 g3 t_people t_fewest t_kinds t_loves f5 f6 g_chalk g_wet g_harvest g_draw i1 r8 k9) cal_X4_worthOf t_463 rfl ⟨by decide, by decide⟩ hw (w' := List.flatten [wT cy t0 t1 t2 g0 t_people t_fewest t_kinds t_loves, wG cy g0 g1 g2 g3 f5 f6 g_chalk g_wet g_harvest g_draw]) Cut.all 0 4 rfl rfl hl.1 (Nat.le_of_ble_eq_true rfl) rfl dX4_middleOfSale_28 (fun H locs hw => ?_)
  refine lv_isub hx hb dX4_middleOfSale_31 ?_
  refine lv_istore (lv' := [(6, .int (r1 - r8)), (5, .int r3), (4, .int r1), (0, .ref t0), (1, .int i1), (2, .int i2), (3, .int i3)]) hx hb dX4_middleOfSale_32 hl (by decide) rfl (fun ls hl => ?_)
  refine lv_aload_n hx hb dX4_middleOfSale_34 rfl (lv_at hl 3 rfl) ?_
  refine lv_iload_n hx hb dX4_middleOfSale_35 rfl (lv_at hl 5 rfl) ?_
  obtain ⟨r10, k11, h19⟩ := ob1 h18
  clear h18
  refine g_vi F (cX4_worthOf_ok l d cy t0 t1 t2 g0 g1 g2 g3 t_people t_fewest t_kinds t_loves f5 f6 g_chalk g_wet g_harvest g_draw i2 r10 k11) cal_X4_worthOf t_463 rfl ⟨by decide, by decide⟩ hw (w' := List.flatten [wT cy t0 t1 t2 g0 t_people t_fewest t_kinds t_loves, wG cy g0 g1 g2 g3 f5 f6 g_chalk g_wet g_harvest g_draw]) Cut.all 0 4 rfl rfl hl.1 (Nat.le_of_ble_eq_true rfl) rfl dX4_middleOfSale_36 (fun H locs hw => ?_)
  refine lv_iload hx hb dX4_middleOfSale_39 (lv_at hl 1 rfl) ?_
  refine lv_isub hx hb dX4_middleOfSale_41 ?_
  refine lv_istore (lv' := [(7, .int (r10 - r3)), (6, .int (r1 - r8)), (5, .int r3), (4, .int r1), (0, .ref t0), (1, .int i1), (2, .int i2), (3, .int i3)]) hx hb dX4_middleOfSale_42 hl (by decide) rfl (fun ls hl => ?_)
  refine lv_aload_n hx hb dX4_middleOfSale_44 rfl (lv_at hl 4 rfl) ?_
  refine g_get F inG4 hw 0 rfl rfl 4 (by decide) t_114 (fun _ h9 => h9) rfl dX4_middleOfSale_45 ?_
  refine lv_iload_n hx hb dX4_middleOfSale_48 rfl (lv_at hl 6 rfl) ?_
  refine lv_iload_n hx hb dX4_middleOfSale_49 rfl (lv_at hl 5 rfl) ?_
  refine lv_iload_n hx hb dX4_middleOfSale_50 rfl (lv_at hl 7 rfl) ?_
  obtain ⟨f12, f13, k14, h20⟩ := ob2 h19
  clear h19
  refine g_vv F (cX0_move_ok l d cy g0 g1 g2 g3 f5 f6 g_chalk g_wet g_harvest g_draw i2 i1 i3 f12 f13 k14) cal_X0_move t_538 rfl ⟨by decide, by decide⟩ hw (w' := List.flatten [wT cy t0 t1 t2 g0 t_people t_fewest t_kinds t_loves, wG cy g0 g1 g2 g3 f12 f13 g_chalk g_wet g_harvest g_draw]) (SCut.cut (SCut.one (SCut.skip (SCut.take SCut.rf SCut.none)))) 0 0 rfl rfl hl.1 (Nat.le_of_ble_eq_true rfl) rfl dX4_middleOfSale_51 (fun H locs hw => ?_)
  refine lv_iconst (v := 0) hx hb dX4_middleOfSale_54 (by decide) ?_
  refine lv_iload hx hb dX4_middleOfSale_55 (lv_at hl 1 rfl) ?_
  refine lv_iload hx hb dX4_middleOfSale_57 (lv_at hl 0 rfl) ?_
  refine lv_iadd hx hb dX4_middleOfSale_59 ?_
  refine lv_iconst (v := 2) hx hb dX4_middleOfSale_60 (by decide) ?_
  refine lv_idiv hx hb dX4_middleOfSale_61 (by decide) ?_
  refine va_mmax hx hb (F.2.2.2.2.1.trans hl.1.symm) F.2.2.2.2.2.1 (F.2.2.2.2.2.2.1 _ t_539) (F.2.2.2.2.2.2.1 _ t_363) (F.2.2.2.2.2.2.1 _ t_47) (F.2.2.2.2.2.2.1 _ t_364) (by decide) (Nat.le_of_ble_eq_true rfl) (Nat.zero_le _) (Nat.zero_le _) dX4_middleOfSale_62 ?_
  obtain ⟨rfl, rfl, rfl⟩ := inj3 h20
  exact hret _ _ _ _ hw dX4_middleOfSale_65
theorem cal_X4_mightGain : CalV yX4_mightGain cX4_mightGain 4 (some .boolean) RX4 3 := ⟨t_582, t_580, t_581, t_38, by decide +kernel⟩
set_option maxHeartbeats 4000000 in
set_option maxRecDepth 100000 in
theorem cX4_mightGain_ok (l : Launch) (d : va_G) (cy : Nat → ClassId) (t0 t1 t2 g0 g1 g2 g3 : Nat) (t_people : Int32) (t_fewest : Int32) (t_kinds : Nat → Int32) (t_loves : Nat → Int32) (g_many : Nat → Int32) (g_sets : Nat → Int32) (g_chalk : Nat → Int32) (g_wet : Int32) (g_harvest : Int32) (g_draw : Int32) (i1 : Int32) (i2 : Int32) (i3 : Int32) (r : Int32) (h0 : fX4_mightGain t_fewest g_many g_sets g_chalk i1 i2 i3 = some (r)) : CI l yX4_mightGain cX4_mightGain 4 (some .boolean) 2 48 d cy [.ref t0, .int i1, .int i2, .int i3] (List.flatten [wT cy t0 t1 t2 g0 t_people t_fewest t_kinds t_loves, wG cy g0 g1 g2 g3 g_many g_sets g_chalk g_wet g_harvest g_draw]) (List.flatten [wT cy t0 t1 t2 g0 t_people t_fewest t_kinds t_loves, wG cy g0 g1 g2 g3 g_many g_sets g_chalk g_wet g_harvest g_draw]) r := by
  refine CZ.of (by decide) (Nat.le_of_ble_eq_true rfl) ?_
  intro p e s m args below meth c A ls Q F hret hw hl
  have hx := F.1
  have hb := F.2.1
  have hl : lv_has ls 4 [(0, .ref t0), (1, .int i1), (2, .int i2), (3, .int i3)] := hl
  rw [fX4_mightGain] at h0
  refine lv_iload_n hx hb dX4_mightGain_0 rfl (lv_at hl 1 rfl) ?_
  refine lv_iload_n hx hb dX4_mightGain_1 rfl (lv_at hl 2 rfl) ?_
  refine lv_icmp_eq (tgt := 36) hx hb dX4_mightGain_2 (by decide) (fun c1 => ?_) (fun c1 => ?_)
  · rw [if_pos c1] at h0
    refine lv_iconst (v := 0) hx hb dX4_mightGain_36 (by decide) ?_
    obtain rfl := inj1 h0
    exact hret _ _ _ _ rfl hw dX4_mightGain_37
  · rw [if_neg c1] at h0
    refine lv_aload_n hx hb dX4_mightGain_5 rfl (lv_at hl 0 rfl) ?_
    refine g_get F inG4 hw 0 rfl rfl 4 (by decide) t_114 (fun _ h9 => h9) rfl dX4_mightGain_6 ?_
    refine g_get F inG0 hw 3 rfl rfl 1 (by decide) t_75 (fun _ h9 => h9) rfl dX4_mightGain_9 ?_
    refine lv_iload_n hx hb dX4_mightGain_12 rfl (lv_at hl 2 rfl) ?_
    obtain ⟨j2, k3, h10⟩ := ob1 h0
    clear h0
    refine g_iald F hw 5 rfl k3 dX4_mightGain_13 ?_
    refine lv_iload_n hx hb dX4_mightGain_14 rfl (lv_at hl 3 rfl) ?_
    obtain ⟨r4, k5, h11⟩ := ob1 h10
    clear h10
    refine g_ni F (cX5_isIn_ok l d cy (g_sets j2) i3 r4 k5) cal_X5_isIn (List.mem_of_getElem? (i := 6) rfl) rfl ⟨by decide, by decide⟩ hw (w' := List.flatten [wT cy t0 t1 t2 g0 t_people t_fewest t_kinds t_loves, wG cy g0 g1 g2 g3 g_many g_sets g_chalk g_wet g_harvest g_draw]) Cut.nil hl.1 (Nat.le_of_ble_eq_true rfl) rfl dX4_mightGain_15 (fun H locs hw => ?_)
    refine lv_if_ne (tgt := 36) hx hb dX4_mightGain_18 (by decide) (fun c6 => ?_) (fun c6 => ?_)
    · rw [if_neg c6] at h11
      refine lv_iconst (v := 0) hx hb dX4_mightGain_36 (by decide) ?_
      obtain rfl := inj1 h11
      exact hret _ _ _ _ rfl hw dX4_mightGain_37
    · rw [if_pos c6] at h11
      refine lv_aload_n hx hb dX4_mightGain_21 rfl (lv_at hl 0 rfl) ?_
      refine lv_iload_n hx hb dX4_mightGain_22 rfl (lv_at hl 1 rfl) ?_
      refine lv_iload_n hx hb dX4_mightGain_23 rfl (lv_at hl 2 rfl) ?_
      refine lv_iload_n hx hb dX4_mightGain_24 rfl (lv_at hl 3 rfl) ?_
      refine lv_iconst (v := 0) hx hb dX4_mightGain_25 (by decide) ?_
      obtain ⟨r7, k8, h12⟩ := ob1 h11
      clear h11
      refine g_vi F (cX4_maySell_ok l d cy t0 t1 t2 g0 g1 g2 g3 t_people t_fewest t_kinds t_loves g_many g_sets g_chalk g_wet g_harvest g_draw i1 i2 i3 0 r7 k8) cal_X4_maySell t_540 rfl ⟨by decide, by decide⟩ hw (w' := List.flatten [wT cy t0 t1 t2 g0 t_people t_fewest t_kinds t_loves, wG cy g0 g1 g2 g3 g_many g_sets g_chalk g_wet g_harvest g_draw]) Cut.all 0 4 rfl rfl hl.1 (Nat.le_of_ble_eq_true rfl) rfl dX4_mightGain_26 (fun H locs hw => ?_)
      refine lv_if_eq (tgt := 36) hx hb dX4_mightGain_29 (by decide) (fun c9 => ?_) (fun c9 => ?_)
      · rw [if_pos c9] at h12
        refine lv_iconst (v := 0) hx hb dX4_mightGain_36 (by decide) ?_
        obtain rfl := inj1 h12
        exact hret _ _ _ _ rfl hw dX4_mightGain_37
      · rw [if_neg c9] at h12
        refine lv_iconst (v := 1) hx hb dX4_mightGain_32 (by decide) ?_
        refine lv_goto (tgt := 37) hx hb dX4_mightGain_33 (by decide) ?_
        obtain rfl := inj1 h12
        exact hret _ _ _ _ rfl hw dX4_mightGain_37
theorem cal_X4_bestSale : CalV yX4_bestSale cX4_bestSale 7 (some .int) RX4 0 := ⟨t_578, t_576, t_577, t_38, by decide +kernel⟩
set_option maxHeartbeats 4000000 in
set_option maxRecDepth 100000 in
theorem cX4_bestSale_ok (l : Launch) (d : va_G) (cy : Nat → ClassId) (t0 t1 t2 g0 g1 g2 g3 : Nat) (t_people : Int32) (t_fewest : Int32) (t_kinds : Nat → Int32) (t_loves : Nat → Int32) (g_many : Nat → Int32) (g_sets : Nat → Int32) (g_chalk : Nat → Int32) (g_wet : Int32) (g_harvest : Int32) (g_draw : Int32) (r : Int32) (g_many_r : Nat → Int32) (g_sets_r : Nat → Int32) (h0 : fX4_bestSale t_people t_fewest t_kinds t_loves g_many g_sets g_chalk g_wet g_harvest = some (r, g_many_r, g_sets_r)) : CI l yX4_bestSale cX4_bestSale 7 (some .int) 5 120 d cy [.ref t0] (List.flatten [wT cy t0 t1 t2 g0 t_people t_fewest t_kinds t_loves, wG cy g0 g1 g2 g3 g_many g_sets g_chalk g_wet g_harvest g_draw]) (List.flatten [wT cy t0 t1 t2 g0 t_people t_fewest t_kinds t_loves, wG cy g0 g1 g2 g3 g_many_r g_sets_r g_chalk g_wet g_harvest g_draw]) r := by
  refine CI.of (by decide) (Nat.le_of_ble_eq_true rfl) ?_
  intro p e s m args below meth c A ls Q F hret hw hl
  have hx := F.1
  have hb := F.2.1
  have hl : lv_has ls 7 [(0, .ref t0)] := hl
  rw [fX4_bestSale] at h0
  refine lv_bipush (v := (-4)) hx hb dX4_bestSale_0 (by decide) ?_
  refine lv_istore_n (lv' := [(1, .int (-4)), (0, .ref t0)]) hx hb dX4_bestSale_2 rfl hl (by decide) rfl (fun ls hl => ?_)
  refine lv_iconst (v := 0) hx hb dX4_bestSale_3 (by decide) ?_
  refine lv_istore_n (lv' := [(2, .int 0), (1, .int (-4)), (0, .ref t0)]) hx hb dX4_bestSale_4 rfl hl (by decide) rfl (fun ls hl => ?_)
  refine lv_iconst (v := 0) hx hb dX4_bestSale_5 (by decide) ?_
  refine lv_istore_n (lv' := [(3, .int 0), (2, .int 0), (1, .int (-4)), (0, .ref t0)]) hx hb dX4_bestSale_6 rfl hl (by decide) rfl (fun ls hl => ?_)
  obtain ⟨q626, q627, o628, h935, h936⟩ := ob3 h0
  clear h0
  have kont623 : ∀ (H : Heap) (locs : List Loc) (ls : Array Slot), Wd d A s.heap (List.flatten [wT cy t0 t1 t2 g0 t_people t_fewest t_kinds t_loves, wG cy g0 g1 g2 g3 q626 q627 g_chalk g_wet g_harvest g_draw]) H locs → lv_has ls 7 [(1, .int o628)] → W p l e (rmo 5 120) s m args below meth c H locs 0 0 Q (F0 m 100 ls []) := by
    intro H locs ls hw hl
    clear h935
    refine lv_iload_n hx hb dX4_bestSale_100 rfl (lv_at hl 0 rfl) ?_
    obtain ⟨rfl, rfl, rfl⟩ := inj3 h936
    exact hret _ _ _ _ hw dX4_bestSale_101
  clear h936
  have loop625 : ∀ (n : Nat) (v618 : Int32) (v619 : Int32) (v620 : Int32) (g621 : Nat → Int32) (g622 : Nat → Int32) (H : Heap) (locs : List Loc) (ls : Array Slot), Wd d A s.heap (List.flatten [wT cy t0 t1 t2 g0 t_people t_fewest t_kinds t_loves, wG cy g0 g1 g2 g3 g621 g622 g_chalk g_wet g_harvest g_draw]) H locs → lv_has ls 7 [(0, .ref t0), (1, .int v618), (2, .int v619), (3, .int v620)] → fX4_bestSale_L7 g_chalk g_harvest g_wet t_fewest t_kinds t_loves t_people n v618 v619 v620 g621 g622 = some (q626, q627, o628) → W p l e (rmo 5 120) s m args below meth c H locs 0 0 Q (F0 m 7 ls []) := by
    intro n
    induction n with
    | zero =>
      intro v618 v619 v620 g621 g622 H locs ls hw hl h937
      rw [fX4_bestSale_L7] at h937
      cases h937
    | succ n ih624 =>
      intro v618 v619 v620 g621 g622 H locs ls hw hl h938
      rw [fX4_bestSale_L7] at h938
      refine lv_iload_n hx hb dX4_bestSale_7 rfl (lv_at hl 3 rfl) ?_
      refine lv_aload_n hx hb dX4_bestSale_8 rfl (lv_at hl 0 rfl) ?_
      refine g_get F inG4 hw 0 rfl rfl 0 (by decide) t_104 (fun _ h9 => h9) rfl dX4_bestSale_9 ?_
      refine lv_icmp_ge (tgt := 100) hx hb dX4_bestSale_12 (by decide) (fun c629 => ?_) (fun c629 => ?_)
      · rw [if_pos c629] at h938
        obtain ⟨rfl, rfl, rfl⟩ := inj3 h938
        exact kont623 _ _ _ hw (lv_sub hl [1] rfl)
      · rw [if_neg c629] at h938
        refine lv_iconst (v := 0) hx hb dX4_bestSale_15 (by decide) ?_
        refine lv_istore (lv' := [(4, .int 0), (0, .ref t0), (1, .int v618), (2, .int v619), (3, .int v620)]) hx hb dX4_bestSale_16 hl (by decide) rfl (fun ls hl => ?_)
        obtain ⟨q835, q836, o837, o838, h939, h940⟩ := ob4 h938
        clear h938
        have kont832 : ∀ (H : Heap) (locs : List Loc) (ls : Array Slot), Wd d A s.heap (List.flatten [wT cy t0 t1 t2 g0 t_people t_fewest t_kinds t_loves, wG cy g0 g1 g2 g3 q835 q836 g_chalk g_wet g_harvest g_draw]) H locs → lv_has ls 7 [(0, .ref t0), (1, .int o837), (2, .int o838), (3, .int v620)] → W p l e (rmo 5 120) s m args below meth c H locs 0 0 Q (F0 m 94 ls []) := by
          intro H locs ls hw hl
          clear h939
          refine lv_iinc (v := (v620 + 1)) (lv' := [(3, .int (v620 + 1)), (0, .ref t0), (1, .int o837), (2, .int o838)]) hx hb dX4_bestSale_94 hl (k := 3) rfl rfl (by decide) rfl (fun ls hl => ?_)
          refine lv_goto (tgt := 7) hx hb dX4_bestSale_97 (by decide) ?_
          exact ih624 o837 o838 (v620 + 1) q835 q836 _ _ _ hw (lv_sub hl [1, 2, 3, 0] rfl) h940
        clear h940
        have loop834 : ∀ (n : Nat) (v827 : Int32) (v828 : Int32) (v829 : Int32) (g830 : Nat → Int32) (g831 : Nat → Int32) (H : Heap) (locs : List Loc) (ls : Array Slot), Wd d A s.heap (List.flatten [wT cy t0 t1 t2 g0 t_people t_fewest t_kinds t_loves, wG cy g0 g1 g2 g3 g830 g831 g_chalk g_wet g_harvest g_draw]) H locs → lv_has ls 7 [(0, .ref t0), (1, .int v827), (2, .int v828), (3, .int v620), (4, .int v829)] → fX4_bestSale_L18 g_chalk g_harvest g_wet t_fewest t_kinds t_loves t_people v620 n v827 v828 v829 g830 g831 = some (q835, q836, o837, o838) → W p l e (rmo 5 120) s m args below meth c H locs 0 0 Q (F0 m 18 ls []) := by
          intro n
          induction n with
          | zero =>
            intro v827 v828 v829 g830 g831 H locs ls hw hl h941
            rw [fX4_bestSale_L18] at h941
            cases h941
          | succ n ih833 =>
            intro v827 v828 v829 g830 g831 H locs ls hw hl h942
            rw [fX4_bestSale_L18] at h942
            refine lv_iload hx hb dX4_bestSale_18 (lv_at hl 4 rfl) ?_
            refine lv_aload_n hx hb dX4_bestSale_20 rfl (lv_at hl 0 rfl) ?_
            refine g_get F inG4 hw 0 rfl rfl 0 (by decide) t_104 (fun _ h9 => h9) rfl dX4_bestSale_21 ?_
            refine lv_icmp_ge (tgt := 94) hx hb dX4_bestSale_24 (by decide) (fun c839 => ?_) (fun c839 => ?_)
            · rw [if_pos c839] at h942
              obtain ⟨rfl, rfl, rfl, rfl⟩ := inj4 h942
              exact kont832 _ _ _ hw (lv_sub hl [0, 1, 2, 3] rfl)
            · rw [if_neg c839] at h942
              refine lv_iconst (v := 0) hx hb dX4_bestSale_27 (by decide) ?_
              refine lv_istore (lv' := [(5, .int 0), (0, .ref t0), (1, .int v827), (2, .int v828), (3, .int v620), (4, .int v829)]) hx hb dX4_bestSale_28 hl (by decide) rfl (fun ls hl => ?_)
              obtain ⟨q905, q906, o907, o908, h943, h944⟩ := ob4 h942
              clear h942
              have kont902 : ∀ (H : Heap) (locs : List Loc) (ls : Array Slot), Wd d A s.heap (List.flatten [wT cy t0 t1 t2 g0 t_people t_fewest t_kinds t_loves, wG cy g0 g1 g2 g3 q905 q906 g_chalk g_wet g_harvest g_draw]) H locs → lv_has ls 7 [(0, .ref t0), (1, .int o907), (2, .int o908), (3, .int v620), (4, .int v829)] → W p l e (rmo 5 120) s m args below meth c H locs 0 0 Q (F0 m 88 ls []) := by
                intro H locs ls hw hl
                clear h943
                refine lv_iinc (v := (v829 + 1)) (lv' := [(4, .int (v829 + 1)), (0, .ref t0), (1, .int o907), (2, .int o908), (3, .int v620)]) hx hb dX4_bestSale_88 hl (k := 4) rfl rfl (by decide) rfl (fun ls hl => ?_)
                refine lv_goto (tgt := 18) hx hb dX4_bestSale_91 (by decide) ?_
                exact ih833 o907 o908 (v829 + 1) q905 q906 _ _ _ hw (lv_sub hl [1, 2, 3, 4, 0] rfl) h944
              clear h944
              have loop904 : ∀ (n : Nat) (v897 : Int32) (v898 : Int32) (v899 : Int32) (g900 : Nat → Int32) (g901 : Nat → Int32) (H : Heap) (locs : List Loc) (ls : Array Slot), Wd d A s.heap (List.flatten [wT cy t0 t1 t2 g0 t_people t_fewest t_kinds t_loves, wG cy g0 g1 g2 g3 g900 g901 g_chalk g_wet g_harvest g_draw]) H locs → lv_has ls 7 [(0, .ref t0), (1, .int v897), (2, .int v898), (3, .int v620), (4, .int v829), (5, .int v899)] → fX4_bestSale_L30 g_chalk g_harvest g_wet t_fewest t_kinds t_loves t_people v620 v829 n v897 v898 v899 g900 g901 = some (q905, q906, o907, o908) → W p l e (rmo 5 120) s m args below meth c H locs 0 0 Q (F0 m 30 ls []) := by
                intro n
                induction n with
                | zero =>
                  intro v897 v898 v899 g900 g901 H locs ls hw hl h945
                  rw [fX4_bestSale_L30] at h945
                  cases h945
                | succ n ih903 =>
                  intro v897 v898 v899 g900 g901 H locs ls hw hl h946
                  rw [fX4_bestSale_L30] at h946
                  refine lv_iload hx hb dX4_bestSale_30 (lv_at hl 5 rfl) ?_
                  refine lv_bipush (v := 12) hx hb dX4_bestSale_32 (by decide) ?_
                  refine lv_icmp_ge (tgt := 88) hx hb dX4_bestSale_34 (by decide) (fun c909 => ?_) (fun c909 => ?_)
                  · rw [if_pos c909] at h946
                    obtain ⟨rfl, rfl, rfl, rfl⟩ := inj4 h946
                    exact kont902 _ _ _ hw (lv_sub hl [0, 1, 2, 3, 4] rfl)
                  · rw [if_neg c909] at h946
                    refine lv_aload_n hx hb dX4_bestSale_37 rfl (lv_at hl 0 rfl) ?_
                    refine lv_iload_n hx hb dX4_bestSale_38 rfl (lv_at hl 3 rfl) ?_
                    refine lv_iload hx hb dX4_bestSale_39 (lv_at hl 4 rfl) ?_
                    refine lv_iload hx hb dX4_bestSale_41 (lv_at hl 5 rfl) ?_
                    obtain ⟨r910, k911, h947⟩ := ob1 h946
                    clear h946
                    refine g_vi F (cX4_mightGain_ok l d cy t0 t1 t2 g0 g1 g2 g3 t_people t_fewest t_kinds t_loves g900 g901 g_chalk g_wet g_harvest g_draw v620 v829 v899 r910 k911) cal_X4_mightGain t_579 rfl ⟨by decide, by decide⟩ hw (w' := List.flatten [wT cy t0 t1 t2 g0 t_people t_fewest t_kinds t_loves, wG cy g0 g1 g2 g3 g900 g901 g_chalk g_wet g_harvest g_draw]) Cut.all 0 4 rfl rfl hl.1 (Nat.le_of_ble_eq_true rfl) rfl dX4_bestSale_43 (fun H locs hw => ?_)
                    obtain ⟨f917, f918, x919, h948, h949⟩ := ob3 h947
                    clear h947
                    have kont920 : ∀ (H : Heap) (locs : List Loc) (ls : Array Slot), Wd d A s.heap (List.flatten [wT cy t0 t1 t2 g0 t_people t_fewest t_kinds t_loves, wG cy g0 g1 g2 g3 f917 f918 g_chalk g_wet g_harvest g_draw]) H locs → lv_has ls 7 [(0, .ref t0), (1, .int v897), (2, .int v898), (3, .int v620), (4, .int v829), (5, .int v899)] → W p l e (rmo 5 120) s m args below meth c H locs 0 0 Q (F0 m 62 ls [.int x919]) := by
                      intro H locs ls hw hl
                      clear h948
                      refine lv_istore (lv' := [(6, .int x919), (0, .ref t0), (1, .int v897), (2, .int v898), (3, .int v620), (4, .int v829), (5, .int v899)]) hx hb dX4_bestSale_62 hl (by decide) rfl (fun ls hl => ?_)
                      refine lv_iload hx hb dX4_bestSale_64 (lv_at hl 0 rfl) ?_
                      refine lv_iload_n hx hb dX4_bestSale_66 rfl (lv_at hl 3 rfl) ?_
                      obtain ⟨x929, x930, h950, h951⟩ := ob2 h949
                      clear h949
                      have kont931 : ∀ (H : Heap) (locs : List Loc) (ls : Array Slot), Wd d A s.heap (List.flatten [wT cy t0 t1 t2 g0 t_people t_fewest t_kinds t_loves, wG cy g0 g1 g2 g3 f917 f918 g_chalk g_wet g_harvest g_draw]) H locs → lv_has ls 7 [(0, .ref t0), (1, .int x929), (2, .int x930), (3, .int v620), (4, .int v829), (5, .int v899)] → W p l e (rmo 5 120) s m args below meth c H locs 0 0 Q (F0 m 82 ls []) := by
                        intro H locs ls hw hl
                        clear h950
                        refine lv_iinc (v := (v899 + 1)) (lv' := [(5, .int (v899 + 1)), (0, .ref t0), (1, .int x929), (2, .int x930), (3, .int v620), (4, .int v829)]) hx hb dX4_bestSale_82 hl (k := 5) rfl rfl (by decide) rfl (fun ls hl => ?_)
                        refine lv_goto (tgt := 30) hx hb dX4_bestSale_85 (by decide) ?_
                        exact ih903 x929 x930 (v899 + 1) f917 f918 _ _ _ hw (lv_sub hl [1, 2, 3, 4, 5, 0] rfl) h951
                      clear h951
                      refine lv_icmp_le (tgt := 82) hx hb dX4_bestSale_67 (by decide) (fun c932 => ?_) (fun c932 => ?_)
                      · rw [if_pos c932] at h950
                        obtain ⟨rfl, rfl⟩ := inj2 h950
                        exact kont931 _ _ _ hw (lv_sub hl [1, 2, 3, 4, 5, 6] rfl)
                      · rw [if_neg c932] at h950
                        refine lv_iload hx hb dX4_bestSale_70 (lv_at hl 0 rfl) ?_
                        refine lv_istore_n (lv' := [(2, .int x919), (6, .int x919), (0, .ref t0), (1, .int v897), (3, .int v620), (4, .int v829), (5, .int v899)]) hx hb dX4_bestSale_72 rfl hl (by decide) rfl (fun ls hl => ?_)
                        refine lv_iload_n hx hb dX4_bestSale_73 rfl (lv_at hl 4 rfl) ?_
                        refine lv_iload hx hb dX4_bestSale_74 (lv_at hl 5 rfl) ?_
                        refine lv_iload hx hb dX4_bestSale_76 (lv_at hl 6 rfl) ?_
                        obtain ⟨r933, k934, h952⟩ := ob1 h950
                        clear h950
                        refine g_ni F (cX5_saleOf_ok l d cy v620 v829 v899 r933 k934) cal_X5_saleOf (List.mem_of_getElem? (i := 7) rfl) rfl ⟨by decide, by decide⟩ hw (w' := List.flatten [wT cy t0 t1 t2 g0 t_people t_fewest t_kinds t_loves, wG cy g0 g1 g2 g3 f917 f918 g_chalk g_wet g_harvest g_draw]) Cut.nil hl.1 (Nat.le_of_ble_eq_true rfl) rfl dX4_bestSale_78 (fun H locs hw => ?_)
                        refine lv_istore_n (lv' := [(1, .int r933), (2, .int x919), (6, .int x919), (0, .ref t0), (3, .int v620), (4, .int v829), (5, .int v899)]) hx hb dX4_bestSale_81 rfl hl (by decide) rfl (fun ls hl => ?_)
                        obtain ⟨rfl, rfl⟩ := inj2 h952
                        exact kont931 _ _ _ hw (lv_sub hl [3, 0, 1, 4, 5, 6] rfl)
                    clear h949
                    refine lv_if_eq (tgt := 61) hx hb dX4_bestSale_46 (by decide) (fun c921 => ?_) (fun c921 => ?_)
                    · rw [if_pos c921] at h948
                      refine lv_iconst (v := 0) hx hb dX4_bestSale_61 (by decide) ?_
                      obtain ⟨rfl, rfl, rfl⟩ := inj3 h948
                      exact kont920 _ _ _ hw (lv_sub hl [0, 1, 2, 3, 4, 5] rfl)
                    · rw [if_neg c921] at h948
                      refine lv_aload_n hx hb dX4_bestSale_49 rfl (lv_at hl 0 rfl) ?_
                      refine lv_iload_n hx hb dX4_bestSale_50 rfl (lv_at hl 3 rfl) ?_
                      refine lv_iload hx hb dX4_bestSale_51 (lv_at hl 4 rfl) ?_
                      refine lv_iload hx hb dX4_bestSale_53 (lv_at hl 5 rfl) ?_
                      obtain ⟨r922, f923, f924, k925, h953⟩ := ob3 h948
                      clear h948
                      refine g_vi F (cX4_gainOfSale_ok l d cy t0 t1 t2 g0 g1 g2 g3 t_people t_fewest t_kinds t_loves g900 g901 g_chalk g_wet g_harvest g_draw v620 v829 v899 r922 f923 f924 k925) cal_X4_gainOfSale t_584 rfl ⟨by decide, by decide⟩ hw (w' := List.flatten [wT cy t0 t1 t2 g0 t_people t_fewest t_kinds t_loves, wG cy g0 g1 g2 g3 f923 f924 g_chalk g_wet g_harvest g_draw]) Cut.all 0 4 rfl rfl hl.1 (Nat.le_of_ble_eq_true rfl) rfl dX4_bestSale_55 (fun H locs hw => ?_)
                      refine lv_goto (tgt := 62) hx hb dX4_bestSale_58 (by decide) ?_
                      obtain ⟨rfl, rfl, rfl⟩ := inj3 h953
                      exact kont920 _ _ _ hw (lv_sub hl [0, 1, 2, 3, 4, 5] rfl)
              exact loop904 fl v827 v828 0 g830 g831 _ _ _ hw (lv_sub hl [1, 2, 3, 4, 5, 0] rfl) h943
        exact loop834 fl v618 v619 0 g621 g622 _ _ _ hw (lv_sub hl [1, 2, 3, 4, 0] rfl) h939
  exact loop625 fl (-4) 0 0 g_many g_sets _ _ _ hw (lv_sub hl [3, 2, 1, 0] rfl) h935
theorem cal_X4_driftOnce : CalV yX4_driftOnce cX4_driftOnce 5 none RX4 0 := ⟨t_530, t_528, t_529, t_38, by decide +kernel⟩
set_option maxHeartbeats 4000000 in
set_option maxRecDepth 100000 in
theorem cX4_driftOnce_ok (l : Launch) (d : va_G) (cy : Nat → ClassId) (t0 t1 t2 g0 g1 g2 g3 : Nat) (t_people : Int32) (t_fewest : Int32) (t_kinds : Nat → Int32) (t_loves : Nat → Int32) (g_many : Nat → Int32) (g_sets : Nat → Int32) (g_chalk : Nat → Int32) (g_wet : Int32) (g_harvest : Int32) (g_draw : Int32) (g_many_r : Nat → Int32) (g_sets_r : Nat → Int32) (g_chalk_r : Nat → Int32) (g_draw_r : Int32) (h0 : fX4_driftOnce t_people t_fewest t_kinds t_loves g_many g_sets g_chalk g_wet g_harvest g_draw = some (g_many_r, g_sets_r, g_chalk_r, g_draw_r)) : CV l yX4_driftOnce cX4_driftOnce 5 none 5 123 d cy [.ref t0] (List.flatten [wT cy t0 t1 t2 g0 t_people t_fewest t_kinds t_loves, wG cy g0 g1 g2 g3 g_many g_sets g_chalk g_wet g_harvest g_draw]) (List.flatten [wT cy t0 t1 t2 g0 t_people t_fewest t_kinds t_loves, wG cy g0 g1 g2 g3 g_many_r g_sets_r g_chalk_r g_wet g_harvest g_draw_r]) := by
  refine CV.of (by decide) (Nat.le_of_ble_eq_true rfl) ?_
  intro p e s m args below meth c A ls Q F hret hw hl
  have hx := F.1
  have hb := F.2.1
  have hl : lv_has ls 5 [(0, .ref t0)] := hl
  rw [fX4_driftOnce] at h0
  refine lv_aload_n hx hb dX4_driftOnce_0 rfl (lv_at hl 0 rfl) ?_
  refine g_get F inG4 hw 0 rfl rfl 4 (by decide) t_114 (fun _ h9 => h9) rfl dX4_driftOnce_1 ?_
  refine lv_aload_n hx hb dX4_driftOnce_4 rfl (lv_at hl 0 rfl) ?_
  refine g_get F inG4 hw 0 rfl rfl 4 (by decide) t_114 (fun _ h9 => h9) rfl dX4_driftOnce_5 ?_
  refine g_get F inG0 hw 3 rfl rfl 5 (by decide) t_89 (fun _ h9 => h9) rfl dX4_driftOnce_8 ?_
  refine lv_ldc (v := 1103515245) hx hb F.2.2.2.2.2.1 (F.2.2.2.2.2.2.1 _ t_531) dX4_driftOnce_11 ?_
  refine lv_imul hx hb dX4_driftOnce_13 ?_
  refine lv_sipush (v := 12345) hx hb dX4_driftOnce_14 (by decide) ?_
  refine lv_iadd hx hb dX4_driftOnce_17 ?_
  refine lv_ldc (v := 2147483647) hx hb F.2.2.2.2.2.1 (F.2.2.2.2.2.2.1 _ t_532) dX4_driftOnce_18 ?_
  refine lv_iand hx hb dX4_driftOnce_20 ?_
  refine g_put F inG0 tyX0 tyX0_ok nmX0 hw 3 rfl rfl 5 (by decide) t_89 (fun _ h9 => h9) rfl (ty := .int) (by decide +kernel) rfl rfl (Nat.le_of_ble_eq_true rfl) dX4_driftOnce_21 (w' := List.flatten [wT cy t0 t1 t2 g0 t_people t_fewest t_kinds t_loves, wG cy g0 g1 g2 g3 g_many g_sets g_chalk g_wet g_harvest (((g_draw * 1103515245) + 12345) &&& 2147483647)]) rfl (fun H locs hw => ?_)
  refine lv_aload_n hx hb dX4_driftOnce_24 rfl (lv_at hl 0 rfl) ?_
  refine g_get F inG4 hw 0 rfl rfl 0 (by decide) t_104 (fun _ h9 => h9) rfl dX4_driftOnce_25 ?_
  refine lv_if_ne (tgt := 32) hx hb dX4_driftOnce_28 (by decide) (fun c1 => ?_) (fun c1 => ?_)
  · rw [if_neg c1] at h0
    refine lv_aload_n hx hb dX4_driftOnce_32 rfl (lv_at hl 0 rfl) ?_
    refine g_get F inG4 hw 0 rfl rfl 4 (by decide) t_114 (fun _ h9 => h9) rfl dX4_driftOnce_33 ?_
    refine g_get F inG0 hw 3 rfl rfl 5 (by decide) t_89 (fun _ h9 => h9) rfl dX4_driftOnce_36 ?_
    refine lv_ldc (v := 65536) hx hb F.2.2.2.2.2.1 (F.2.2.2.2.2.2.1 _ t_533) dX4_driftOnce_39 ?_
    refine lv_idiv hx hb dX4_driftOnce_41 (by decide) ?_
    refine lv_aload_n hx hb dX4_driftOnce_42 rfl (lv_at hl 0 rfl) ?_
    refine g_get F inG4 hw 0 rfl rfl 0 (by decide) t_104 (fun _ h9 => h9) rfl dX4_driftOnce_43 ?_
    obtain ⟨k2, h20⟩ := ob0 h0
    clear h0
    refine lv_irem hx hb dX4_driftOnce_46 (nz_ne k2) ?_
    refine lv_istore_n (lv' := [(1, .int (((((g_draw * 1103515245) + 12345) &&& 2147483647) / 65536) - ((((g_draw * 1103515245) + 12345) &&& 2147483647) / 65536) / t_people * t_people)), (0, .ref t0)]) hx hb dX4_driftOnce_47 rfl hl (by decide) rfl (fun ls hl => ?_)
    refine lv_aload_n hx hb dX4_driftOnce_48 rfl (lv_at hl 1 rfl) ?_
    refine g_get F inG4 hw 0 rfl rfl 4 (by decide) t_114 (fun _ h9 => h9) rfl dX4_driftOnce_49 ?_
    refine g_get F inG0 hw 3 rfl rfl 5 (by decide) t_89 (fun _ h9 => h9) rfl dX4_driftOnce_52 ?_
    refine lv_sipush (v := 1024) hx hb dX4_driftOnce_55 (by decide) ?_
    refine lv_idiv hx hb dX4_driftOnce_58 (by decide) ?_
    refine lv_aload_n hx hb dX4_driftOnce_59 rfl (lv_at hl 1 rfl) ?_
    refine g_get F inG4 hw 0 rfl rfl 0 (by decide) t_104 (fun _ h9 => h9) rfl dX4_driftOnce_60 ?_
    obtain ⟨k3, h21⟩ := ob0 h20
    clear h20
    refine lv_irem hx hb dX4_driftOnce_63 (nz_ne k3) ?_
    refine lv_istore_n (lv' := [(2, .int (((((g_draw * 1103515245) + 12345) &&& 2147483647) / 1024) - ((((g_draw * 1103515245) + 12345) &&& 2147483647) / 1024) / t_people * t_people)), (1, .int (((((g_draw * 1103515245) + 12345) &&& 2147483647) / 65536) - ((((g_draw * 1103515245) + 12345) &&& 2147483647) / 65536) / t_people * t_people)), (0, .ref t0)]) hx hb dX4_driftOnce_64 rfl hl (by decide) rfl (fun ls hl => ?_)
    refine lv_aload_n hx hb dX4_driftOnce_65 rfl (lv_at hl 2 rfl) ?_
    refine g_get F inG4 hw 0 rfl rfl 4 (by decide) t_114 (fun _ h9 => h9) rfl dX4_driftOnce_66 ?_
    refine g_get F inG0 hw 3 rfl rfl 5 (by decide) t_89 (fun _ h9 => h9) rfl dX4_driftOnce_69 ?_
    refine lv_sipush (v := 128) hx hb dX4_driftOnce_72 (by decide) ?_
    refine lv_idiv hx hb dX4_driftOnce_75 (by decide) ?_
    refine lv_bipush (v := 12) hx hb dX4_driftOnce_76 (by decide) ?_
    refine lv_irem hx hb dX4_driftOnce_78 (by decide) ?_
    refine lv_istore_n (lv' := [(3, .int (((((g_draw * 1103515245) + 12345) &&& 2147483647) / 128) - ((((g_draw * 1103515245) + 12345) &&& 2147483647) / 128) / 12 * 12)), (2, .int (((((g_draw * 1103515245) + 12345) &&& 2147483647) / 1024) - ((((g_draw * 1103515245) + 12345) &&& 2147483647) / 1024) / t_people * t_people)), (1, .int (((((g_draw * 1103515245) + 12345) &&& 2147483647) / 65536) - ((((g_draw * 1103515245) + 12345) &&& 2147483647) / 65536) / t_people * t_people)), (0, .ref t0)]) hx hb dX4_driftOnce_79 rfl hl (by decide) rfl (fun ls hl => ?_)
    refine lv_iload_n hx hb dX4_driftOnce_80 rfl (lv_at hl 2 rfl) ?_
    refine lv_iload_n hx hb dX4_driftOnce_81 rfl (lv_at hl 1 rfl) ?_
    refine lv_icmp_eq (tgt := 97) hx hb dX4_driftOnce_82 (by decide) (fun c4 => ?_) (fun c4 => ?_)
    · rw [if_pos c4] at h21
      obtain ⟨rfl, rfl, rfl, rfl⟩ := inj4 h21
      exact hret _ _ _ _ hw dX4_driftOnce_97
    · rw [if_neg c4] at h21
      refine lv_aload_n hx hb dX4_driftOnce_85 rfl (lv_at hl 3 rfl) ?_
      refine g_get F inG4 hw 0 rfl rfl 4 (by decide) t_114 (fun _ h9 => h9) rfl dX4_driftOnce_86 ?_
      refine lv_iload_n hx hb dX4_driftOnce_89 rfl (lv_at hl 2 rfl) ?_
      refine lv_iload_n hx hb dX4_driftOnce_90 rfl (lv_at hl 0 rfl) ?_
      obtain ⟨r5, k6, h22⟩ := ob1 h21
      clear h21
      refine g_vi F (cX0_manyOf_ok l d cy g0 g1 g2 g3 g_many g_sets g_chalk g_wet g_harvest (((g_draw * 1103515245) + 12345) &&& 2147483647) (((((g_draw * 1103515245) + 12345) &&& 2147483647) / 65536) - ((((g_draw * 1103515245) + 12345) &&& 2147483647) / 65536) / t_people * t_people) (((((g_draw * 1103515245) + 12345) &&& 2147483647) / 128) - ((((g_draw * 1103515245) + 12345) &&& 2147483647) / 128) / 12 * 12) r5 k6) cal_X0_manyOf t_481 rfl ⟨by decide, by decide⟩ hw (w' := List.flatten [wT cy t0 t1 t2 g0 t_people t_fewest t_kinds t_loves, wG cy g0 g1 g2 g3 g_many g_sets g_chalk g_wet g_harvest (((g_draw * 1103515245) + 12345) &&& 2147483647)]) (SCut.cut (SCut.one (SCut.skip (SCut.take SCut.rf SCut.none)))) 0 0 rfl rfl hl.1 (Nat.le_of_ble_eq_true rfl) rfl dX4_driftOnce_91 (fun H locs hw => ?_)
      refine lv_if_ne (tgt := 98) hx hb dX4_driftOnce_94 (by decide) (fun c7 => ?_) (fun c7 => ?_)
      · rw [if_neg c7] at h22
        refine lv_aload_n hx hb dX4_driftOnce_98 rfl (lv_at hl 3 rfl) ?_
        refine lv_iload_n hx hb dX4_driftOnce_99 rfl (lv_at hl 2 rfl) ?_
        refine lv_iload_n hx hb dX4_driftOnce_100 rfl (lv_at hl 1 rfl) ?_
        refine lv_iload_n hx hb dX4_driftOnce_101 rfl (lv_at hl 0 rfl) ?_
        obtain ⟨r8, f9, f10, k11, h23⟩ := ob3 h22
        clear h22
        refine g_vi F (cX4_middleOfSale_ok l d cy t0 t1 t2 g0 g1 g2 g3 t_people t_fewest t_kinds t_loves g_many g_sets g_chalk g_wet g_harvest (((g_draw * 1103515245) + 12345) &&& 2147483647) (((((g_draw * 1103515245) + 12345) &&& 2147483647) / 65536) - ((((g_draw * 1103515245) + 12345) &&& 2147483647) / 65536) / t_people * t_people) (((((g_draw * 1103515245) + 12345) &&& 2147483647) / 1024) - ((((g_draw * 1103515245) + 12345) &&& 2147483647) / 1024) / t_people * t_people) (((((g_draw * 1103515245) + 12345) &&& 2147483647) / 128) - ((((g_draw * 1103515245) + 12345) &&& 2147483647) / 128) / 12 * 12) r8 f9 f10 k11) cal_X4_middleOfSale t_534 rfl ⟨by decide, by decide⟩ hw (w' := List.flatten [wT cy t0 t1 t2 g0 t_people t_fewest t_kinds t_loves, wG cy g0 g1 g2 g3 f9 f10 g_chalk g_wet g_harvest (((g_draw * 1103515245) + 12345) &&& 2147483647)]) Cut.all 0 4 rfl rfl hl.1 (Nat.le_of_ble_eq_true rfl) rfl dX4_driftOnce_102 (fun H locs hw => ?_)
        refine lv_istore (lv' := [(4, .int r8), (3, .int (((((g_draw * 1103515245) + 12345) &&& 2147483647) / 128) - ((((g_draw * 1103515245) + 12345) &&& 2147483647) / 128) / 12 * 12)), (2, .int (((((g_draw * 1103515245) + 12345) &&& 2147483647) / 1024) - ((((g_draw * 1103515245) + 12345) &&& 2147483647) / 1024) / t_people * t_people)), (1, .int (((((g_draw * 1103515245) + 12345) &&& 2147483647) / 65536) - ((((g_draw * 1103515245) + 12345) &&& 2147483647) / 65536) / t_people * t_people)), (0, .ref t0)]) hx hb dX4_driftOnce_105 hl (by decide) rfl (fun ls hl => ?_)
        refine lv_aload_n hx hb dX4_driftOnce_107 rfl (lv_at hl 4 rfl) ?_
        refine lv_iload_n hx hb dX4_driftOnce_108 rfl (lv_at hl 3 rfl) ?_
        refine lv_iload_n hx hb dX4_driftOnce_109 rfl (lv_at hl 2 rfl) ?_
        refine lv_iload_n hx hb dX4_driftOnce_110 rfl (lv_at hl 1 rfl) ?_
        refine lv_iload hx hb dX4_driftOnce_111 (lv_at hl 0 rfl) ?_
        obtain ⟨r12, k13, h24⟩ := ob1 h23
        clear h23
        refine g_vi F (cX4_maySell_ok l d cy t0 t1 t2 g0 g1 g2 g3 t_people t_fewest t_kinds t_loves f9 f10 g_chalk g_wet g_harvest (((g_draw * 1103515245) + 12345) &&& 2147483647) (((((g_draw * 1103515245) + 12345) &&& 2147483647) / 65536) - ((((g_draw * 1103515245) + 12345) &&& 2147483647) / 65536) / t_people * t_people) (((((g_draw * 1103515245) + 12345) &&& 2147483647) / 1024) - ((((g_draw * 1103515245) + 12345) &&& 2147483647) / 1024) / t_people * t_people) (((((g_draw * 1103515245) + 12345) &&& 2147483647) / 128) - ((((g_draw * 1103515245) + 12345) &&& 2147483647) / 128) / 12 * 12) r8 r12 k13) cal_X4_maySell t_540 rfl ⟨by decide, by decide⟩ hw (w' := List.flatten [wT cy t0 t1 t2 g0 t_people t_fewest t_kinds t_loves, wG cy g0 g1 g2 g3 f9 f10 g_chalk g_wet g_harvest (((g_draw * 1103515245) + 12345) &&& 2147483647)]) Cut.all 0 4 rfl rfl hl.1 (Nat.le_of_ble_eq_true rfl) rfl dX4_driftOnce_113 (fun H locs hw => ?_)
        refine lv_if_eq (tgt := 140) hx hb dX4_driftOnce_116 (by decide) (fun c14 => ?_) (fun c14 => ?_)
        · rw [if_pos c14] at h24
          obtain ⟨rfl, rfl, rfl, rfl⟩ := inj4 h24
          exact hret _ _ _ _ hw dX4_driftOnce_140
        · rw [if_neg c14] at h24
          refine lv_aload_n hx hb dX4_driftOnce_119 rfl (lv_at hl 4 rfl) ?_
          refine g_get F inG4 hw 0 rfl rfl 4 (by decide) t_114 (fun _ h9 => h9) rfl dX4_driftOnce_120 ?_
          refine lv_iload_n hx hb dX4_driftOnce_123 rfl (lv_at hl 3 rfl) ?_
          refine lv_iload_n hx hb dX4_driftOnce_124 rfl (lv_at hl 2 rfl) ?_
          refine lv_iload_n hx hb dX4_driftOnce_125 rfl (lv_at hl 1 rfl) ?_
          obtain ⟨f15, f16, k17, h25⟩ := ob2 h24
          clear h24
          refine g_vv F (cX0_move_ok l d cy g0 g1 g2 g3 f9 f10 g_chalk g_wet g_harvest (((g_draw * 1103515245) + 12345) &&& 2147483647) (((((g_draw * 1103515245) + 12345) &&& 2147483647) / 65536) - ((((g_draw * 1103515245) + 12345) &&& 2147483647) / 65536) / t_people * t_people) (((((g_draw * 1103515245) + 12345) &&& 2147483647) / 1024) - ((((g_draw * 1103515245) + 12345) &&& 2147483647) / 1024) / t_people * t_people) (((((g_draw * 1103515245) + 12345) &&& 2147483647) / 128) - ((((g_draw * 1103515245) + 12345) &&& 2147483647) / 128) / 12 * 12) f15 f16 k17) cal_X0_move t_538 rfl ⟨by decide, by decide⟩ hw (w' := List.flatten [wT cy t0 t1 t2 g0 t_people t_fewest t_kinds t_loves, wG cy g0 g1 g2 g3 f15 f16 g_chalk g_wet g_harvest (((g_draw * 1103515245) + 12345) &&& 2147483647)]) (SCut.cut (SCut.one (SCut.skip (SCut.take SCut.rf SCut.none)))) 0 0 rfl rfl hl.1 (Nat.le_of_ble_eq_true rfl) rfl dX4_driftOnce_126 (fun H locs hw => ?_)
          refine lv_aload_n hx hb dX4_driftOnce_129 rfl (lv_at hl 4 rfl) ?_
          refine g_get F inG4 hw 0 rfl rfl 4 (by decide) t_114 (fun _ h9 => h9) rfl dX4_driftOnce_130 ?_
          refine lv_iload_n hx hb dX4_driftOnce_133 rfl (lv_at hl 2 rfl) ?_
          refine lv_iload_n hx hb dX4_driftOnce_134 rfl (lv_at hl 3 rfl) ?_
          refine lv_iload hx hb dX4_driftOnce_135 (lv_at hl 0 rfl) ?_
          obtain ⟨f18, k19, h26⟩ := ob1 h25
          clear h25
          refine g_vv F (cX0_pay_ok l d cy g0 g1 g2 g3 f15 f16 g_chalk g_wet g_harvest (((g_draw * 1103515245) + 12345) &&& 2147483647) (((((g_draw * 1103515245) + 12345) &&& 2147483647) / 1024) - ((((g_draw * 1103515245) + 12345) &&& 2147483647) / 1024) / t_people * t_people) (((((g_draw * 1103515245) + 12345) &&& 2147483647) / 65536) - ((((g_draw * 1103515245) + 12345) &&& 2147483647) / 65536) / t_people * t_people) r8 f18 k19) cal_X0_pay t_541 rfl ⟨by decide, by decide⟩ hw (w' := List.flatten [wT cy t0 t1 t2 g0 t_people t_fewest t_kinds t_loves, wG cy g0 g1 g2 g3 f15 f16 f18 g_wet g_harvest (((g_draw * 1103515245) + 12345) &&& 2147483647)]) (SCut.cut (SCut.one (SCut.skip (SCut.take SCut.rf SCut.none)))) 0 0 rfl rfl hl.1 (Nat.le_of_ble_eq_true rfl) rfl dX4_driftOnce_137 (fun H locs hw => ?_)
          obtain ⟨rfl, rfl, rfl, rfl⟩ := inj4 h26
          exact hret _ _ _ _ hw dX4_driftOnce_140
      · rw [if_pos c7] at h22
        obtain ⟨rfl, rfl, rfl, rfl⟩ := inj4 h22
        exact hret _ _ _ _ hw dX4_driftOnce_97
  · rw [if_pos c1] at h0
    obtain ⟨rfl, rfl, rfl, rfl⟩ := inj4 h0
    exact hret _ _ _ _ hw dX4_driftOnce_31
theorem cal_X4_weightOfRain : CalV yX4_weightOfRain cX4_weightOfRain 9 (some .int) RX4 3 := ⟨t_641, t_639, t_640, t_38, by decide +kernel⟩
set_option maxHeartbeats 4000000 in
set_option maxRecDepth 100000 in
theorem cX4_weightOfRain_ok (l : Launch) (d : va_G) (cy : Nat → ClassId) (t0 t1 t2 g0 g1 g2 g3 : Nat) (t_people : Int32) (t_fewest : Int32) (t_kinds : Nat → Int32) (t_loves : Nat → Int32) (g_many : Nat → Int32) (g_sets : Nat → Int32) (g_chalk : Nat → Int32) (g_wet : Int32) (g_harvest : Int32) (g_draw : Int32) (i1 : Int32) (i2 : Int32) (i3 : Int32) (r : Int32) (h0 : fX4_weightOfRain t_kinds t_loves g_sets g_wet g_harvest i1 i2 i3 = some (r)) : CI l yX4_weightOfRain cX4_weightOfRain 9 (some .int) 3 75 d cy [.ref t0, .int i1, .int i2, .int i3] (List.flatten [wT cy t0 t1 t2 g0 t_people t_fewest t_kinds t_loves, wG cy g0 g1 g2 g3 g_many g_sets g_chalk g_wet g_harvest g_draw]) (List.flatten [wT cy t0 t1 t2 g0 t_people t_fewest t_kinds t_loves, wG cy g0 g1 g2 g3 g_many g_sets g_chalk g_wet g_harvest g_draw]) r := by
  refine CI.of (by decide) (Nat.le_of_ble_eq_true rfl) ?_
  intro p e s m args below meth c A ls Q F hret hw hl
  have hx := F.1
  have hb := F.2.1
  have hl : lv_has ls 9 [(0, .ref t0), (1, .int i1), (2, .int i2), (3, .int i3)] := hl
  rw [fX4_weightOfRain] at h0
  refine lv_bipush (v := 63) hx hb dX4_weightOfRain_0 (by decide) ?_
  refine lv_aload_n hx hb dX4_weightOfRain_2 rfl (lv_at hl 0 rfl) ?_
  refine g_get F inG4 hw 0 rfl rfl 4 (by decide) t_114 (fun _ h9 => h9) rfl dX4_weightOfRain_3 ?_
  refine g_get F inG0 hw 3 rfl rfl 3 (by decide) t_82 (fun _ h9 => h9) rfl dX4_weightOfRain_6 ?_
  refine lv_iconst (v := (-1)) hx hb dX4_weightOfRain_9 (by decide) ?_
  refine lv_ixor hx hb dX4_weightOfRain_10 ?_
  refine lv_iand hx hb dX4_weightOfRain_11 ?_
  refine lv_istore (lv' := [(4, .int (63 &&& (g_wet ^^^ (-1)))), (0, .ref t0), (1, .int i1), (2, .int i2), (3, .int i3)]) hx hb dX4_weightOfRain_12 hl (by decide) rfl (fun ls hl => ?_)
  refine lv_iconst (v := 0) hx hb dX4_weightOfRain_14 (by decide) ?_
  refine lv_istore (lv' := [(5, .int 0), (4, .int (63 &&& (g_wet ^^^ (-1)))), (0, .ref t0), (1, .int i1), (2, .int i2), (3, .int i3)]) hx hb dX4_weightOfRain_15 hl (by decide) rfl (fun ls hl => ?_)
  refine lv_iconst (v := 0) hx hb dX4_weightOfRain_17 (by decide) ?_
  refine lv_istore (lv' := [(6, .int 0), (5, .int 0), (4, .int (63 &&& (g_wet ^^^ (-1)))), (0, .ref t0), (1, .int i1), (2, .int i2), (3, .int i3)]) hx hb dX4_weightOfRain_18 hl (by decide) rfl (fun ls hl => ?_)
  obtain ⟨o78, h114, h115⟩ := ob1 h0
  clear h0
  have kont75 : ∀ (H : Heap) (locs : List Loc) (ls : Array Slot), Wd d A s.heap (List.flatten [wT cy t0 t1 t2 g0 t_people t_fewest t_kinds t_loves, wG cy g0 g1 g2 g3 g_many g_sets g_chalk g_wet g_harvest g_draw]) H locs → lv_has ls 9 [(5, .int o78)] → W p l e (rmo 3 75) s m args below meth c H locs 0 0 Q (F0 m 119 ls []) := by
    intro H locs ls hw hl
    clear h114
    refine lv_iload hx hb dX4_weightOfRain_119 (lv_at hl 0 rfl) ?_
    obtain rfl := inj1 h115
    exact hret _ _ _ _ hw dX4_weightOfRain_121
  clear h115
  have loop77 : ∀ (n : Nat) (v73 : Int32) (v74 : Int32) (H : Heap) (locs : List Loc) (ls : Array Slot), Wd d A s.heap (List.flatten [wT cy t0 t1 t2 g0 t_people t_fewest t_kinds t_loves, wG cy g0 g1 g2 g3 g_many g_sets g_chalk g_wet g_harvest g_draw]) H locs → lv_has ls 9 [(0, .ref t0), (1, .int i1), (2, .int i2), (3, .int i3), (4, .int (63 &&& (g_wet ^^^ (-1)))), (5, .int v73), (6, .int v74)] → fX4_weightOfRain_L20 g_harvest g_sets g_wet i1 i2 i3 t_kinds t_loves n v73 v74 = some (o78) → W p l e (rmo 3 75) s m args below meth c H locs 0 0 Q (F0 m 20 ls []) := by
    intro n
    induction n with
    | zero =>
      intro v73 v74 H locs ls hw hl h116
      rw [fX4_weightOfRain_L20] at h116
      cases h116
    | succ n ih76 =>
      intro v73 v74 H locs ls hw hl h117
      rw [fX4_weightOfRain_L20] at h117
      refine lv_iload hx hb dX4_weightOfRain_20 (lv_at hl 6 rfl) ?_
      refine lv_bipush (v := 63) hx hb dX4_weightOfRain_22 (by decide) ?_
      refine lv_icmp_gt (tgt := 119) hx hb dX4_weightOfRain_24 (by decide) (fun c79 => ?_) (fun c79 => ?_)
      · rw [if_pos c79] at h117
        obtain rfl := inj1 h117
        exact kont75 _ _ _ hw (lv_sub hl [5] rfl)
      · rw [if_neg c79] at h117
        refine lv_iload hx hb dX4_weightOfRain_27 (lv_at hl 6 rfl) ?_
        refine lv_iload hx hb dX4_weightOfRain_29 (lv_at hl 4 rfl) ?_
        refine lv_iconst (v := (-1)) hx hb dX4_weightOfRain_31 (by decide) ?_
        refine lv_ixor hx hb dX4_weightOfRain_32 ?_
        refine lv_iand hx hb dX4_weightOfRain_33 ?_
        obtain ⟨x81, h118, h119⟩ := ob1 h117
        clear h117
        have kont82 : ∀ (H : Heap) (locs : List Loc) (ls : Array Slot), Wd d A s.heap (List.flatten [wT cy t0 t1 t2 g0 t_people t_fewest t_kinds t_loves, wG cy g0 g1 g2 g3 g_many g_sets g_chalk g_wet g_harvest g_draw]) H locs → lv_has ls 9 [(0, .ref t0), (1, .int i1), (2, .int i2), (3, .int i3), (4, .int (63 &&& (g_wet ^^^ (-1)))), (5, .int v73), (6, .int v74)] → W p l e (rmo 3 75) s m args below meth c H locs 0 0 Q (F0 m 42 ls [.int x81]) := by
          intro H locs ls hw hl
          clear h118
          refine lv_istore (lv' := [(7, .int x81), (0, .ref t0), (1, .int i1), (2, .int i2), (3, .int i3), (4, .int (63 &&& (g_wet ^^^ (-1)))), (5, .int v73), (6, .int v74)]) hx hb dX4_weightOfRain_42 hl (by decide) rfl (fun ls hl => ?_)
          refine lv_iload hx hb dX4_weightOfRain_44 (lv_at hl 0 rfl) ?_
          obtain ⟨x98, h120, h121⟩ := ob1 h119
          clear h119
          have kont99 : ∀ (H : Heap) (locs : List Loc) (ls : Array Slot), Wd d A s.heap (List.flatten [wT cy t0 t1 t2 g0 t_people t_fewest t_kinds t_loves, wG cy g0 g1 g2 g3 g_many g_sets g_chalk g_wet g_harvest g_draw]) H locs → lv_has ls 9 [(0, .ref t0), (1, .int i1), (2, .int i2), (3, .int i3), (4, .int (63 &&& (g_wet ^^^ (-1)))), (5, .int x98), (6, .int v74)] → W p l e (rmo 3 75) s m args below meth c H locs 0 0 Q (F0 m 113 ls []) := by
            intro H locs ls hw hl
            clear h120
            refine lv_iinc (v := (v74 + 1)) (lv' := [(6, .int (v74 + 1)), (0, .ref t0), (1, .int i1), (2, .int i2), (3, .int i3), (4, .int (63 &&& (g_wet ^^^ (-1)))), (5, .int x98)]) hx hb dX4_weightOfRain_113 hl (k := 6) rfl rfl (by decide) rfl (fun ls hl => ?_)
            refine lv_goto (tgt := 20) hx hb dX4_weightOfRain_116 (by decide) ?_
            exact ih76 x98 (v74 + 1) _ _ _ hw (lv_sub hl [1, 2, 3, 4, 5, 6, 0] rfl) h121
          clear h121
          refine lv_if_eq (tgt := 113) hx hb dX4_weightOfRain_46 (by decide) (fun c100 => ?_) (fun c100 => ?_)
          · rw [if_pos c100] at h120
            obtain rfl := inj1 h120
            exact kont99 _ _ _ hw (lv_sub hl [1, 2, 3, 4, 5, 6, 7] rfl)
          · rw [if_neg c100] at h120
            refine lv_aload_n hx hb dX4_weightOfRain_49 rfl (lv_at hl 1 rfl) ?_
            refine lv_iload_n hx hb dX4_weightOfRain_50 rfl (lv_at hl 2 rfl) ?_
            refine lv_aload_n hx hb dX4_weightOfRain_51 rfl (lv_at hl 1 rfl) ?_
            refine g_get F inG4 hw 0 rfl rfl 4 (by decide) t_114 (fun _ h9 => h9) rfl dX4_weightOfRain_52 ?_
            refine g_get F inG0 hw 3 rfl rfl 1 (by decide) t_75 (fun _ h9 => h9) rfl dX4_weightOfRain_55 ?_
            refine lv_iload_n hx hb dX4_weightOfRain_58 rfl (lv_at hl 2 rfl) ?_
            obtain ⟨j101, k102, h122⟩ := ob1 h120
            clear h120
            refine g_iald F hw 5 rfl k102 dX4_weightOfRain_59 ?_
            refine lv_aload_n hx hb dX4_weightOfRain_60 rfl (lv_at hl 1 rfl) ?_
            refine g_get F inG4 hw 0 rfl rfl 4 (by decide) t_114 (fun _ h9 => h9) rfl dX4_weightOfRain_61 ?_
            refine g_get F inG0 hw 3 rfl rfl 3 (by decide) t_82 (fun _ h9 => h9) rfl dX4_weightOfRain_64 ?_
            refine lv_iload hx hb dX4_weightOfRain_67 (lv_at hl 7 rfl) ?_
            refine lv_ior hx hb dX4_weightOfRain_69 ?_
            obtain ⟨r103, k104, h123⟩ := ob1 h122
            clear h122
            refine g_vi F (cX4_worthInRain_ok l d cy t0 t1 t2 g0 g1 g2 g3 t_people t_fewest t_kinds t_loves g_many g_sets g_chalk g_wet g_harvest g_draw i1 (g_sets j101) (g_wet ||| v74) r103 k104) cal_X4_worthInRain t_257 rfl ⟨by decide, by decide⟩ hw (w' := List.flatten [wT cy t0 t1 t2 g0 t_people t_fewest t_kinds t_loves, wG cy g0 g1 g2 g3 g_many g_sets g_chalk g_wet g_harvest g_draw]) Cut.all 0 4 rfl rfl hl.1 (Nat.le_of_ble_eq_true rfl) rfl dX4_weightOfRain_70 (fun H locs hw => ?_)
            refine lv_iload_n hx hb dX4_weightOfRain_73 rfl (lv_at hl 3 rfl) ?_
            refine lv_icmp_lt (tgt := 113) hx hb dX4_weightOfRain_74 (by decide) (fun c105 => ?_) (fun c105 => ?_)
            · rw [if_pos c105] at h123
              obtain rfl := inj1 h123
              exact kont99 _ _ _ hw (lv_sub hl [1, 2, 3, 4, 5, 6, 7] rfl)
            · rw [if_neg c105] at h123
              refine lv_iload hx hb dX4_weightOfRain_77 (lv_at hl 5 rfl) ?_
              refine lv_iload hx hb dX4_weightOfRain_79 (lv_at hl 7 rfl) ?_
              refine lv_iconst (v := (-1)) hx hb dX4_weightOfRain_81 (by decide) ?_
              refine lv_ixor hx hb dX4_weightOfRain_82 ?_
              refine lv_iand hx hb dX4_weightOfRain_83 ?_
              refine lv_istore (lv' := [(8, .int ((63 &&& (g_wet ^^^ (-1))) &&& (v74 ^^^ (-1)))), (7, .int x81), (0, .ref t0), (1, .int i1), (2, .int i2), (3, .int i3), (4, .int (63 &&& (g_wet ^^^ (-1)))), (5, .int v73), (6, .int v74)]) hx hb dX4_weightOfRain_84 hl (by decide) rfl (fun ls hl => ?_)
              refine lv_iload hx hb dX4_weightOfRain_86 (lv_at hl 7 rfl) ?_
              refine lv_iload_n hx hb dX4_weightOfRain_88 rfl (lv_at hl 5 rfl) ?_
              refine lv_iload hx hb dX4_weightOfRain_89 (lv_at hl 8 rfl) ?_
              obtain ⟨r106, k107, h124⟩ := ob1 h123
              clear h123
              refine g_si F (cJ6_bitCount_0f7a4_ok l d cy v74 r106 k107) cal_J6_bitCount_0f7a4 t_482 rfl ⟨by decide, by decide⟩ hw (w' := List.flatten [wT cy t0 t1 t2 g0 t_people t_fewest t_kinds t_loves, wG cy g0 g1 g2 g3 g_many g_sets g_chalk g_wet g_harvest g_draw]) Cut.nil hl.1 (Nat.le_of_ble_eq_true rfl) rfl dX4_weightOfRain_91 (fun H locs hw => ?_)
              obtain ⟨r108, k109, h125⟩ := ob1 h124
              clear h124
              refine g_ni F (cX5_power_ok l d cy i3 r106 r108 k109) cal_X5_power (List.mem_of_getElem? (i := 8) rfl) rfl ⟨by decide, by decide⟩ hw (w' := List.flatten [wT cy t0 t1 t2 g0 t_people t_fewest t_kinds t_loves, wG cy g0 g1 g2 g3 g_many g_sets g_chalk g_wet g_harvest g_draw]) Cut.nil hl.1 (Nat.le_of_ble_eq_true rfl) rfl dX4_weightOfRain_94 (fun H locs hw => ?_)
              refine lv_bipush (v := 10) hx hb dX4_weightOfRain_97 (by decide) ?_
              refine lv_iload_n hx hb dX4_weightOfRain_99 rfl (lv_at hl 5 rfl) ?_
              refine lv_isub hx hb dX4_weightOfRain_100 ?_
              refine lv_iload hx hb dX4_weightOfRain_101 (lv_at hl 0 rfl) ?_
              obtain ⟨r110, k111, h126⟩ := ob1 h125
              clear h125
              refine g_si F (cJ6_bitCount_0f7a4_ok l d cy ((63 &&& (g_wet ^^^ (-1))) &&& (v74 ^^^ (-1))) r110 k111) cal_J6_bitCount_0f7a4 t_482 rfl ⟨by decide, by decide⟩ hw (w' := List.flatten [wT cy t0 t1 t2 g0 t_people t_fewest t_kinds t_loves, wG cy g0 g1 g2 g3 g_many g_sets g_chalk g_wet g_harvest g_draw]) Cut.nil hl.1 (Nat.le_of_ble_eq_true rfl) rfl dX4_weightOfRain_103 (fun H locs hw => ?_)
              obtain ⟨r112, k113, h127⟩ := ob1 h126
              clear h126
              refine g_ni F (cX5_power_ok l d cy (10 - i3) r110 r112 k113) cal_X5_power (List.mem_of_getElem? (i := 8) rfl) rfl ⟨by decide, by decide⟩ hw (w' := List.flatten [wT cy t0 t1 t2 g0 t_people t_fewest t_kinds t_loves, wG cy g0 g1 g2 g3 g_many g_sets g_chalk g_wet g_harvest g_draw]) Cut.nil hl.1 (Nat.le_of_ble_eq_true rfl) rfl dX4_weightOfRain_106 (fun H locs hw => ?_)
              refine lv_imul hx hb dX4_weightOfRain_109 ?_
              refine lv_iadd hx hb dX4_weightOfRain_110 ?_
              refine lv_istore (lv' := [(5, .int (v73 + (r108 * r112))), (8, .int ((63 &&& (g_wet ^^^ (-1))) &&& (v74 ^^^ (-1)))), (7, .int x81), (0, .ref t0), (1, .int i1), (2, .int i2), (3, .int i3), (4, .int (63 &&& (g_wet ^^^ (-1)))), (6, .int v74)]) hx hb dX4_weightOfRain_111 hl (by decide) rfl (fun ls hl => ?_)
              obtain rfl := inj1 h127
              exact kont99 _ _ _ hw (lv_sub hl [3, 4, 5, 6, 7, 0, 8] rfl)
        clear h119
        refine lv_if_ne (tgt := 41) hx hb dX4_weightOfRain_34 (by decide) (fun c83 => ?_) (fun c83 => ?_)
        · rw [if_neg c83] at h118
          refine lv_iconst (v := 0) hx hb dX4_weightOfRain_41 (by decide) ?_
          obtain rfl := inj1 h118
          exact kont82 _ _ _ hw (lv_sub hl [0, 1, 2, 3, 4, 5, 6] rfl)
        · rw [if_pos c83] at h118
          refine lv_iconst (v := 1) hx hb dX4_weightOfRain_37 (by decide) ?_
          refine lv_goto (tgt := 42) hx hb dX4_weightOfRain_38 (by decide) ?_
          obtain rfl := inj1 h118
          exact kont82 _ _ _ hw (lv_sub hl [0, 1, 2, 3, 4, 5, 6] rfl)
  exact loop77 fl 0 0 _ _ _ hw (lv_sub hl [3, 4, 5, 6, 2, 1, 0] rfl) h114
theorem cal_X4_copyTown : CalV yX4_copyTown cX4_copyTown 2 none RX4 1 := ⟨t_308, t_306, t_307, t_38, by decide +kernel⟩
set_option maxHeartbeats 4000000 in
set_option maxRecDepth 100000 in
theorem cX4_copyTown_ok (l : Launch) (d : va_G) (cy : Nat → ClassId) (t0 t1 t2 g0 g1 g2 g3 u0 u1 u2 v0 v1 v2 v3 : Nat) (t_people : Int32) (t_fewest : Int32) (t_kinds : Nat → Int32) (t_loves : Nat → Int32) (g_many : Nat → Int32) (g_sets : Nat → Int32) (g_chalk : Nat → Int32) (g_wet : Int32) (g_harvest : Int32) (g_draw : Int32) (u_people : Int32) (u_fewest : Int32) (u_kinds : Nat → Int32) (u_loves : Nat → Int32) (v_many : Nat → Int32) (v_sets : Nat → Int32) (v_chalk : Nat → Int32) (v_wet : Int32) (v_harvest : Int32) (v_draw : Int32) (t_people_r : Int32) (t_fewest_r : Int32) (t_kinds_r : Nat → Int32) (t_loves_r : Nat → Int32) (g_many_r : Nat → Int32) (g_sets_r : Nat → Int32) (g_chalk_r : Nat → Int32) (g_wet_r : Int32) (g_harvest_r : Int32) (g_draw_r : Int32) (h0 : fX4_copyTown t_kinds t_loves g_many g_sets g_chalk u_people u_fewest u_kinds u_loves v_many v_sets v_chalk v_wet v_harvest v_draw = some (t_people_r, t_fewest_r, t_kinds_r, t_loves_r, g_many_r, g_sets_r, g_chalk_r, g_wet_r, g_harvest_r, g_draw_r)) : CV l yX4_copyTown cX4_copyTown 2 none 2 81 d cy [.ref t0, .ref u0] (List.flatten [wT cy t0 t1 t2 g0 t_people t_fewest t_kinds t_loves, wG cy g0 g1 g2 g3 g_many g_sets g_chalk g_wet g_harvest g_draw, wT cy u0 u1 u2 v0 u_people u_fewest u_kinds u_loves, wG cy v0 v1 v2 v3 v_many v_sets v_chalk v_wet v_harvest v_draw]) (List.flatten [wT cy t0 t1 t2 g0 t_people_r t_fewest_r t_kinds_r t_loves_r, wG cy g0 g1 g2 g3 g_many_r g_sets_r g_chalk_r g_wet_r g_harvest_r g_draw_r, wT cy u0 u1 u2 v0 u_people u_fewest u_kinds u_loves, wG cy v0 v1 v2 v3 v_many v_sets v_chalk v_wet v_harvest v_draw]) := by
  refine CV.of (by decide) (Nat.le_of_ble_eq_true rfl) ?_
  intro p e s m args below meth c A ls Q F hret hw hl
  have hx := F.1
  have hb := F.2.1
  have hl : lv_has ls 2 [(0, .ref t0), (1, .ref u0)] := hl
  rw [fX4_copyTown] at h0
  refine lv_aload_n hx hb dX4_copyTown_0 rfl (lv_at hl 0 rfl) ?_
  refine lv_aload_n hx hb dX4_copyTown_1 rfl (lv_at hl 1 rfl) ?_
  refine g_get F inG4 hw 7 rfl rfl 0 (by decide) t_104 (fun _ h9 => h9) rfl dX4_copyTown_2 ?_
  refine g_put F inG4 tyX4 tyX4_ok nmX4 hw 0 rfl rfl 0 (by decide) t_104 (fun _ h9 => h9) rfl (ty := .int) (by decide +kernel) rfl rfl (Nat.le_of_ble_eq_true rfl) dX4_copyTown_5 (w' := List.flatten [wT cy t0 t1 t2 g0 u_people t_fewest t_kinds t_loves, wG cy g0 g1 g2 g3 g_many g_sets g_chalk g_wet g_harvest g_draw, wT cy u0 u1 u2 v0 u_people u_fewest u_kinds u_loves, wG cy v0 v1 v2 v3 v_many v_sets v_chalk v_wet v_harvest v_draw]) rfl (fun H locs hw => ?_)
  refine lv_aload_n hx hb dX4_copyTown_8 rfl (lv_at hl 0 rfl) ?_
  refine lv_aload_n hx hb dX4_copyTown_9 rfl (lv_at hl 1 rfl) ?_
  refine g_get F inG4 hw 7 rfl rfl 1 (by decide) t_107 (fun _ h9 => h9) rfl dX4_copyTown_10 ?_
  refine g_put F inG4 tyX4 tyX4_ok nmX4 hw 0 rfl rfl 1 (by decide) t_107 (fun _ h9 => h9) rfl (ty := .int) (by decide +kernel) rfl rfl (Nat.le_of_ble_eq_true rfl) dX4_copyTown_13 (w' := List.flatten [wT cy t0 t1 t2 g0 u_people u_fewest t_kinds t_loves, wG cy g0 g1 g2 g3 g_many g_sets g_chalk g_wet g_harvest g_draw, wT cy u0 u1 u2 v0 u_people u_fewest u_kinds u_loves, wG cy v0 v1 v2 v3 v_many v_sets v_chalk v_wet v_harvest v_draw]) rfl (fun H locs hw => ?_)
  refine lv_aload_n hx hb dX4_copyTown_16 rfl (lv_at hl 1 rfl) ?_
  refine g_get F inG4 hw 7 rfl rfl 2 (by decide) t_109 (fun _ h9 => h9) rfl dX4_copyTown_17 ?_
  refine lv_iconst (v := 0) hx hb dX4_copyTown_20 (by decide) ?_
  refine lv_aload_n hx hb dX4_copyTown_21 rfl (lv_at hl 0 rfl) ?_
  refine g_get F inG4 hw 0 rfl rfl 2 (by decide) t_109 (fun _ h9 => h9) rfl dX4_copyTown_22 ?_
  refine lv_iconst (v := 0) hx hb dX4_copyTown_25 (by decide) ?_
  refine lv_bipush (v := 6) hx hb dX4_copyTown_26 (by decide) ?_
  refine va_copyi (ty := .int) hx hb (F.2.2.2.2.1.trans hl.1.symm) F.2.2.2.2.2.1 (F.2.2.2.2.2.2.1 _ t_309) (F.2.2.2.2.2.2.1 _ t_311) (F.2.2.2.2.2.2.1 _ t_310) (F.2.2.2.2.2.2.1 _ t_44) F.2.2.2.2.2.2.2.1.1 hw.1 hw.2.1 hw.2.2 8 1 0 0 rfl rfl rfl rfl rfl (by decide) (by decide) (by decide) (by decide) (by decide) (fun _ _ => rfl) (by decide) (by decide +kernel) dX4_copyTown_28 (fun H locs hP hD hS => ?_)
  have hw : Wd d A s.heap (List.flatten [wT cy t0 t1 t2 g0 u_people u_fewest (va_cpy u_kinds t_kinds 0 0 6) t_loves, wG cy g0 g1 g2 g3 g_many g_sets g_chalk g_wet g_harvest g_draw, wT cy u0 u1 u2 v0 u_people u_fewest u_kinds u_loves, wG cy v0 v1 v2 v3 v_many v_sets v_chalk v_wet v_harvest v_draw]) H locs := ⟨hP, hD, hS⟩
  refine lv_aload_n hx hb dX4_copyTown_31 rfl (lv_at hl 1 rfl) ?_
  refine g_get F inG4 hw 7 rfl rfl 3 (by decide) t_111 (fun _ h9 => h9) rfl dX4_copyTown_32 ?_
  refine lv_iconst (v := 0) hx hb dX4_copyTown_35 (by decide) ?_
  refine lv_aload_n hx hb dX4_copyTown_36 rfl (lv_at hl 0 rfl) ?_
  refine g_get F inG4 hw 0 rfl rfl 3 (by decide) t_111 (fun _ h9 => h9) rfl dX4_copyTown_37 ?_
  refine lv_iconst (v := 0) hx hb dX4_copyTown_40 (by decide) ?_
  refine lv_bipush (v := 6) hx hb dX4_copyTown_41 (by decide) ?_
  refine va_copyi (ty := .int) hx hb (F.2.2.2.2.1.trans hl.1.symm) F.2.2.2.2.2.1 (F.2.2.2.2.2.2.1 _ t_309) (F.2.2.2.2.2.2.1 _ t_311) (F.2.2.2.2.2.2.1 _ t_310) (F.2.2.2.2.2.2.1 _ t_44) F.2.2.2.2.2.2.2.1.1 hw.1 hw.2.1 hw.2.2 9 2 0 0 rfl rfl rfl rfl rfl (by decide) (by decide) (by decide) (by decide) (by decide) (fun _ _ => rfl) (by decide) (by decide +kernel) dX4_copyTown_43 (fun H locs hP hD hS => ?_)
  have hw : Wd d A s.heap (List.flatten [wT cy t0 t1 t2 g0 u_people u_fewest (va_cpy u_kinds t_kinds 0 0 6) (va_cpy u_loves t_loves 0 0 6), wG cy g0 g1 g2 g3 g_many g_sets g_chalk g_wet g_harvest g_draw, wT cy u0 u1 u2 v0 u_people u_fewest u_kinds u_loves, wG cy v0 v1 v2 v3 v_many v_sets v_chalk v_wet v_harvest v_draw]) H locs := ⟨hP, hD, hS⟩
  refine lv_aload_n hx hb dX4_copyTown_46 rfl (lv_at hl 0 rfl) ?_
  refine g_get F inG4 hw 0 rfl rfl 4 (by decide) t_114 (fun _ h9 => h9) rfl dX4_copyTown_47 ?_
  refine lv_aload_n hx hb dX4_copyTown_50 rfl (lv_at hl 1 rfl) ?_
  refine g_get F inG4 hw 7 rfl rfl 4 (by decide) t_114 (fun _ h9 => h9) rfl dX4_copyTown_51 ?_
  obtain ⟨f1, f2, f3, x4, x5, x6, k7, h8⟩ := ob6 h0
  clear h0
  refine g_vv F (cX0_copyGoods_ok l d cy g0 g1 g2 g3 v0 v1 v2 v3 g_many g_sets g_chalk g_wet g_harvest g_draw v_many v_sets v_chalk v_wet v_harvest v_draw f1 f2 f3 x4 x5 x6 k7) cal_X0_copyGoods t_312 rfl ⟨by decide, by decide⟩ hw (w' := List.flatten [wT cy t0 t1 t2 g0 u_people u_fewest (va_cpy u_kinds t_kinds 0 0 6) (va_cpy u_loves t_loves 0 0 6), wG cy g0 g1 g2 g3 f1 f2 f3 x4 x5 x6, wT cy u0 u1 u2 v0 u_people u_fewest u_kinds u_loves, wG cy v0 v1 v2 v3 v_many v_sets v_chalk v_wet v_harvest v_draw]) (SCut.cut (SCut.skip (SCut.take SCut.rf (SCut.skip (SCut.take SCut.rf SCut.none))))) 0 0 rfl rfl hl.1 (Nat.le_of_ble_eq_true rfl) rfl dX4_copyTown_54 (fun H locs hw => ?_)
  obtain ⟨rfl, rfl, rfl, rfl, rfl, rfl, rfl, rfl, rfl, rfl⟩ := inj10 h8
  exact hret _ _ _ _ hw dX4_copyTown_57
