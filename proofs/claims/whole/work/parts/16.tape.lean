theorem t_41 : (Cond.initialized "SundayMarket$Tape") ∈ gtbl := wd 41 (by decide +kernel) (by decide +kernel)
theorem t_80 : (Cond.fieldLink "SundayMarket$Tape" 46 "SundayMarket$Goods" "wet" "I") ∈ gtbl := wd 80 (by decide +kernel) (by decide +kernel)
theorem t_84 : (Cond.fieldLink "SundayMarket$Tape" 51 "SundayMarket$Goods" "harvest" "I") ∈ gtbl := wd 84 (by decide +kernel) (by decide +kernel)
theorem t_106 : (Cond.fieldLink "SundayMarket$Tape" 22 "SundayMarket$Town" "people" "I") ∈ gtbl := wd 106 (by decide +kernel) (by decide +kernel)
theorem t_113 : (Cond.fieldLink "SundayMarket$Tape" 78 "SundayMarket$Town" "loves" "[I") ∈ gtbl := wd 113 (by decide +kernel) (by decide +kernel)
theorem t_115 : (Cond.fieldLink "SundayMarket$Tape" 27 "SundayMarket$Town" "goods" "LSundayMarket$Goods;") ∈ gtbl := wd 115 (by decide +kernel) (by decide +kernel)
theorem t_151 : (Cond.fieldLink "SundayMarket$Tape" 9 "SundayMarket$Tape" "letters" "[C") ∈ gtbl := wd 151 (by decide +kernel) (by decide +kernel)
theorem t_152 : (Cond.fieldLink "SundayMarket$Tape" 15 "SundayMarket$Tape" "length" "I") ∈ gtbl := wd 152 (by decide +kernel) (by decide +kernel)
theorem t_154 : (Cond.fieldLink "SundayMarket$Tape" 19 "SundayMarket$Tape" "place" "I") ∈ gtbl := wd 154 (by decide +kernel) (by decide +kernel)
theorem t_298 : (Cond.instanceMethod yX3_put) ∈ gtbl := wd 298 (by decide +kernel) (by decide +kernel)
theorem t_299 : (Cond.selects "SundayMarket$Tape" yX3_put yX3_put) ∈ gtbl := wd 299 (by decide +kernel) (by decide +kernel)
theorem t_300 : (Cond.code yX3_put prog_5_method_2_code 2 (some .int)) ∈ gtbl := wd 300 (by decide +kernel) (by decide +kernel)
theorem t_318 : (Cond.instanceMethod yX3_tell) ∈ gtbl := wd 318 (by decide +kernel) (by decide +kernel)
theorem t_319 : (Cond.selects "SundayMarket$Tape" yX3_tell yX3_tell) ∈ gtbl := wd 319 (by decide +kernel) (by decide +kernel)
theorem t_320 : (Cond.code yX3_tell prog_5_method_4_code 2 (some .boolean)) ∈ gtbl := wd 320 (by decide +kernel) (by decide +kernel)
theorem t_321 : (Cond.methodLink "SundayMarket$Tape" 31 yX3_tellSundays) ∈ gtbl := wd 321 (by decide +kernel) (by decide +kernel)
theorem t_322 : (Cond.instanceMethod yX3_tellSundays) ∈ gtbl := wd 322 (by decide +kernel) (by decide +kernel)
theorem t_323 : (Cond.selects "SundayMarket$Tape" yX3_tellSundays yX3_tellSundays) ∈ gtbl := wd 323 (by decide +kernel) (by decide +kernel)
theorem t_324 : (Cond.code yX3_tellSundays prog_5_method_5_code 4 (some .boolean)) ∈ gtbl := wd 324 (by decide +kernel) (by decide +kernel)
theorem t_326 : (Cond.methodLink "SundayMarket$Tape" 56 yX3_takeOneOf) ∈ gtbl := wd 326 (by decide +kernel) (by decide +kernel)
theorem t_327 : (Cond.instanceMethod yX3_takeOneOf) ∈ gtbl := wd 327 (by decide +kernel) (by decide +kernel)
theorem t_328 : (Cond.selects "SundayMarket$Tape" yX3_takeOneOf yX3_takeOneOf) ∈ gtbl := wd 328 (by decide +kernel) (by decide +kernel)
theorem t_329 : (Cond.code yX3_takeOneOf prog_5_method_12_code 4 (some .int)) ∈ gtbl := wd 329 (by decide +kernel) (by decide +kernel)
theorem t_330 : (Cond.methodLink "SundayMarket$Tape" 63 yX3_next) ∈ gtbl := wd 330 (by decide +kernel) (by decide +kernel)
theorem t_331 : (Cond.instanceMethod yX3_next) ∈ gtbl := wd 331 (by decide +kernel) (by decide +kernel)
theorem t_332 : (Cond.selects "SundayMarket$Tape" yX3_next yX3_next) ∈ gtbl := wd 332 (by decide +kernel) (by decide +kernel)
theorem t_333 : (Cond.code yX3_next prog_5_method_10_code 1 (some .int)) ∈ gtbl := wd 333 (by decide +kernel) (by decide +kernel)
theorem t_334 : (Cond.methodLink "SundayMarket$Tape" 93 yJ0_indexOf_0f7a4) ∈ gtbl := wd 334 (by decide +kernel) (by decide +kernel)
theorem t_420 : (Cond.methodLink "SundayMarket$Tape" 35 yX3_takes) ∈ gtbl := wd 420 (by decide +kernel) (by decide +kernel)
theorem t_421 : (Cond.instanceMethod yX3_takes) ∈ gtbl := wd 421 (by decide +kernel) (by decide +kernel)
theorem t_422 : (Cond.selects "SundayMarket$Tape" yX3_takes yX3_takes) ∈ gtbl := wd 422 (by decide +kernel) (by decide +kernel)
theorem t_423 : (Cond.code yX3_takes prog_5_method_11_code 2 (some .boolean)) ∈ gtbl := wd 423 (by decide +kernel) (by decide +kernel)
theorem t_424 : (Cond.methodLink "SundayMarket$Tape" 39 yX3_tellPeople) ∈ gtbl := wd 424 (by decide +kernel) (by decide +kernel)
theorem t_425 : (Cond.instanceMethod yX3_tellPeople) ∈ gtbl := wd 425 (by decide +kernel) (by decide +kernel)
theorem t_426 : (Cond.selects "SundayMarket$Tape" yX3_tellPeople yX3_tellPeople) ∈ gtbl := wd 426 (by decide +kernel) (by decide +kernel)
theorem t_427 : (Cond.code yX3_tellPeople prog_5_method_6_code 3 (some .boolean)) ∈ gtbl := wd 427 (by decide +kernel) (by decide +kernel)
theorem t_428 : (Cond.methodLink "SundayMarket$Tape" 60 yX3_tellOne) ∈ gtbl := wd 428 (by decide +kernel) (by decide +kernel)
theorem t_429 : (Cond.instanceMethod yX3_tellOne) ∈ gtbl := wd 429 (by decide +kernel) (by decide +kernel)
theorem t_430 : (Cond.selects "SundayMarket$Tape" yX3_tellOne yX3_tellOne) ∈ gtbl := wd 430 (by decide +kernel) (by decide +kernel)
theorem t_431 : (Cond.code yX3_tellOne prog_5_method_7_code 6 (some .boolean)) ∈ gtbl := wd 431 (by decide +kernel) (by decide +kernel)
theorem t_433 : (Cond.methodLink "SundayMarket$Tape" 69 yX3_takeNumber) ∈ gtbl := wd 433 (by decide +kernel) (by decide +kernel)
theorem t_434 : (Cond.instanceMethod yX3_takeNumber) ∈ gtbl := wd 434 (by decide +kernel) (by decide +kernel)
theorem t_435 : (Cond.selects "SundayMarket$Tape" yX3_takeNumber yX3_takeNumber) ∈ gtbl := wd 435 (by decide +kernel) (by decide +kernel)
theorem t_436 : (Cond.code yX3_takeNumber prog_5_method_13_code 2 (some .int)) ∈ gtbl := wd 436 (by decide +kernel) (by decide +kernel)
theorem t_438 : (Cond.methodLink "SundayMarket$Tape" 72 yX4_settle) ∈ gtbl := wd 438 (by decide +kernel) (by decide +kernel)
theorem t_440 : (Cond.methodLink "SundayMarket$Tape" 82 yX3_tellHalves) ∈ gtbl := wd 440 (by decide +kernel) (by decide +kernel)
theorem t_441 : (Cond.instanceMethod yX3_tellHalves) ∈ gtbl := wd 441 (by decide +kernel) (by decide +kernel)
theorem t_442 : (Cond.selects "SundayMarket$Tape" yX3_tellHalves yX3_tellHalves) ∈ gtbl := wd 442 (by decide +kernel) (by decide +kernel)
theorem t_443 : (Cond.code yX3_tellHalves prog_5_method_8_code 7 (some .boolean)) ∈ gtbl := wd 443 (by decide +kernel) (by decide +kernel)
theorem t_444 : (Cond.methodLink "SundayMarket$Tape" 86 yX0_manyOf) ∈ gtbl := wd 444 (by decide +kernel) (by decide +kernel)
theorem t_445 : (Cond.methodLink "SundayMarket$Tape" 89 yX0_setMany) ∈ gtbl := wd 445 (by decide +kernel) (by decide +kernel)
theorem t_446 : (Cond.methodLink "SundayMarket$Tape" 43 yX3_lovesAreThere) ∈ gtbl := wd 446 (by decide +kernel) (by decide +kernel)
theorem t_447 : (Cond.instanceMethod yX3_lovesAreThere) ∈ gtbl := wd 447 (by decide +kernel) (by decide +kernel)
theorem t_448 : (Cond.selects "SundayMarket$Tape" yX3_lovesAreThere yX3_lovesAreThere) ∈ gtbl := wd 448 (by decide +kernel) (by decide +kernel)
theorem t_449 : (Cond.code yX3_lovesAreThere prog_5_method_9_code 3 (some .boolean)) ∈ gtbl := wd 449 (by decide +kernel) (by decide +kernel)
theorem t_451 : (Cond.instanceMethod yX3_wipe) ∈ gtbl := wd 451 (by decide +kernel) (by decide +kernel)
theorem t_452 : (Cond.selects "SundayMarket$Tape" yX3_wipe yX3_wipe) ∈ gtbl := wd 452 (by decide +kernel) (by decide +kernel)
theorem t_453 : (Cond.code yX3_wipe prog_5_method_3_code 1 none) ∈ gtbl := wd 453 (by decide +kernel) (by decide +kernel)
def fX3_put (a_letters : Nat → Int32) (a_length : Int32) (i1 : Int32) : Option (Int32 × (Nat → Int32) × Int32) :=
  if 100 ≤ a_length then
    some (a_length, a_letters, a_length)
  else
    bd1 (ix a_length 100) fun j2 =>
    some ((a_length + 1), (upd a_letters j2 (vp_nar .char i1)), (a_length + 1))
def fX3_wipe : Option (Int32 × Int32) :=
  some (0, 0)
def fX3_next_L0 (a_length : Int32) (a_letters : Nat → Int32) : Nat → Int32 → Option (Int32)
  | 0, _ => none
  | n + 1, v10 =>
    if a_length ≤ v10 then
      some (v10)
    else
      bd1 (ix v10 100) fun j16 =>
      if (a_letters j16) = 32 then
        fX3_next_L0 a_length a_letters n (v10 + 1)
      else
        some (v10)
def fX3_next (a_letters : Nat → Int32) (a_length : Int32) (a_place : Int32) : Option (Int32 × Int32) :=
  bd1 (fX3_next_L0 a_length a_letters fl a_place) fun o14 =>
  if a_length ≤ o14 then
    some ((-1), o14)
  else
    bd1 (ix o14 100) fun j20 =>
    some ((a_letters j20), o14)
def fX3_takes (a_letters : Nat → Int32) (a_length : Int32) (a_place : Int32) (i1 : Int32) : Option (Int32 × Int32) :=
  bd2 (fX3_next a_letters a_length a_place) fun r1 x2 =>
  if r1 = i1 then
    some (1, (x2 + 1))
  else
    some (0, x2)
def fX3_takeOneOf (a_letters : Nat → Int32) (a_length : Int32) (a_place : Int32) (sk : Nat) : Option (Int32 × Int32) :=
  bd2 (fX3_next a_letters a_length a_place) fun r1 x2 =>
  bd1 (if r1 = (-1) then
      some ((-1))
    else
      bd1 (fJ0_indexOf_0f7a4 sk ((Int32.toUInt32 r1 % 65536).toInt32)) fun r10 =>
      some (r10)
    : Option Int32) fun x7 =>
  if x7 < 0 then
    some (x7, x2)
  else
    some (x7, (x2 + 1))
def fX3_takeNumber (a_letters : Nat → Int32) (a_length : Int32) (a_place : Int32) : Option (Int32 × Int32) :=
  bd2 (fX3_takeOneOf a_letters a_length a_place 2) fun r1 x2 =>
  if r1 < 0 then
    some (r1, x2)
  else
    if a_length ≤ x2 then
      some (r1, x2)
    else
      bd1 (ix x2 100) fun j6 =>
      if (a_letters j6) < 48 then
        some (r1, x2)
      else
        if 57 < (a_letters j6) then
          some (r1, x2)
        else
          some ((((10 * r1) + (a_letters j6)) - 48), (x2 + 1))
def fX3_tellSundays_L12 (a_length : Int32) (a_letters : Nat → Int32) : Nat → Int32 → Int32 → Int32 → Int32 → Option ((Int32 × Int32 × Int32 × Int32) ⊕ (Int32 × Int32 × Int32))
  | 0, _, _, _, _ => none
  | n + 1, v15, v16, v17, v18 =>
    if 6 ≤ v15 then
      some (Sum.inr (v16, v18, v17))
    else
      bd2 (fX3_takeOneOf a_letters a_length v16 0) fun r26 x27 =>
      if 0 ≤ r26 then
        fX3_tellSundays_L12 a_length a_letters n (v15 + 1) x27 (v17 ||| ((r26 >>> (1 &&& 31)) <<< (v15 &&& 31))) (v18 ||| ((r26 &&& 1) <<< (v15 &&& 31)))
      else
        some (Sum.inl (0, x27, v18, v17))
def fX3_tellSundays (a_letters : Nat → Int32) (a_length : Int32) (a_place : Int32) : Option (Int32 × Int32 × Int32 × Int32) :=
  bd1 (fX3_tellSundays_L12 a_length a_letters fl 0 a_place 0 0) fun zz =>
  Sum.elim (fun ww => some ww) (fun oo => bdp3 oo fun o22 o23 o24 =>
  some (1, o22, o23, o24)) zz
def fX3_tellHalves_L6 (a_length : Int32) (a_letters : Nat → Int32) (i2 : Int32) (i3 : Int32) : Nat → Int32 → Int32 → Int32 → (Nat → Int32) → (Nat → Int32) → Option (Int32 × (Nat → Int32) × (Nat → Int32) × Int32)
  | 0, _, _, _, _, _ => none
  | n + 1, v28, v29, v30, g31, g32 =>
    if 12 ≤ v29 then
      some (v30, g31, g32, v28)
    else
      bd2 (fX3_next a_letters a_length v30) fun r41 x42 =>
      if (r41 - 97) ≤ v28 then
        some (x42, g31, g32, v28)
      else
        if (r41 - 97) < 12 then
          bd1 (fX0_manyOf g31 i2 (r41 - 97)) fun r46 =>
          bd2 (fX0_setMany g31 g32 i2 (r41 - 97) (r46 + i3)) fun f48 f49 =>
          fX3_tellHalves_L6 a_length a_letters i2 i3 n (r41 - 97) (v29 + 1) (x42 + 1) f48 f49
        else
          some (x42, g31, g32, v28)
def fX3_tellHalves (a_letters : Nat → Int32) (a_length : Int32) (a_place : Int32) (g_many : Nat → Int32) (g_sets : Nat → Int32) (i2 : Int32) (i3 : Int32) : Option (Int32 × Int32 × (Nat → Int32) × (Nat → Int32)) :=
  bd4 (fX3_tellHalves_L6 a_length a_letters i2 i3 fl (-1) 0 a_place g_many g_sets) fun o36 q37 q38 o39 =>
  if o39 < 0 then
    some (0, o36, q37, q38)
  else
    some (1, o36, q37, q38)
def fX3_tellOne (a_letters : Nat → Int32) (a_length : Int32) (a_place : Int32) (t_people : Int32) (t_kinds : Nat → Int32) (t_loves : Nat → Int32) (g_many : Nat → Int32) (g_sets : Nat → Int32) (g_chalk : Nat → Int32) : Option (Int32 × Int32 × Int32 × (Nat → Int32) × (Nat → Int32) × (Nat → Int32) × (Nat → Int32) × (Nat → Int32)) :=
  bd2 (fX3_takeOneOf a_letters a_length a_place 1) fun r1 x2 =>
  if 0 ≤ r1 then
    bd2 (fX3_takeNumber a_letters a_length x2) fun r5 x6 =>
    if 0 ≤ r5 then
      bd7 (fX4_settle t_people t_kinds t_loves g_many g_sets g_chalk r1 r5) fun r9 x10 f11 f12 f13 f14 f15 =>
      if 0 ≤ r9 then
        bd2 (fX3_takes a_letters a_length x6 62) fun r18 x19 =>
        if r18 = 0 then
          bd2 (fX3_takes a_letters a_length x19 45) fun r22 x23 =>
          if r22 = 0 then
            bd2 (fX3_takes a_letters a_length x23 43) fun r26 x27 =>
            if r26 = 0 then
              some (1, x27, x10, f11, f12, f13, f14, f15)
            else
              bd4 (fX3_tellHalves a_letters a_length x27 f13 f14 r9 1) fun r30 x31 f32 f33 =>
              if r30 = 0 then
                some (0, x31, x10, f11, f12, f32, f33, f15)
              else
                some (1, x31, x10, f11, f12, f32, f33, f15)
          else
            bd4 (fX3_tellHalves a_letters a_length x23 f13 f14 r9 (-1)) fun r36 x37 f38 f39 =>
            if r36 = 0 then
              some (0, x37, x10, f11, f12, f38, f39, f15)
            else
              bd2 (fX3_takes a_letters a_length x37 43) fun r42 x43 =>
              if r42 = 0 then
                some (1, x43, x10, f11, f12, f38, f39, f15)
              else
                bd4 (fX3_tellHalves a_letters a_length x43 f38 f39 r9 1) fun r46 x47 f48 f49 =>
                if r46 = 0 then
                  some (0, x47, x10, f11, f12, f48, f49, f15)
                else
                  some (1, x47, x10, f11, f12, f48, f49, f15)
        else
          bd2 (fX3_takeOneOf a_letters a_length x19 3) fun r52 x53 =>
          if 0 ≤ r52 then
            bd1 (ix r9 6) fun j56 =>
            bd2 (fX3_takes a_letters a_length x53 45) fun r58 x59 =>
            if r58 = 0 then
              bd2 (fX3_takes a_letters a_length x59 43) fun r62 x63 =>
              if r62 = 0 then
                some (1, x63, x10, f11, (upd f12 j56 r52), f13, f14, f15)
              else
                bd4 (fX3_tellHalves a_letters a_length x63 f13 f14 r9 1) fun r66 x67 f68 f69 =>
                if r66 = 0 then
                  some (0, x67, x10, f11, (upd f12 j56 r52), f68, f69, f15)
                else
                  some (1, x67, x10, f11, (upd f12 j56 r52), f68, f69, f15)
            else
              bd4 (fX3_tellHalves a_letters a_length x59 f13 f14 r9 (-1)) fun r72 x73 f74 f75 =>
              if r72 = 0 then
                some (0, x73, x10, f11, (upd f12 j56 r52), f74, f75, f15)
              else
                bd2 (fX3_takes a_letters a_length x73 43) fun r78 x79 =>
                if r78 = 0 then
                  some (1, x79, x10, f11, (upd f12 j56 r52), f74, f75, f15)
                else
                  bd4 (fX3_tellHalves a_letters a_length x79 f74 f75 r9 1) fun r82 x83 f84 f85 =>
                  if r82 = 0 then
                    some (0, x83, x10, f11, (upd f12 j56 r52), f84, f85, f15)
                  else
                    some (1, x83, x10, f11, (upd f12 j56 r52), f84, f85, f15)
          else
            some (0, x53, x10, f11, f12, f13, f14, f15)
      else
        some (0, x6, x10, f11, f12, f13, f14, f15)
    else
      some (0, x6, t_people, t_kinds, t_loves, g_many, g_sets, g_chalk)
  else
    some (0, x2, t_people, t_kinds, t_loves, g_many, g_sets, g_chalk)
def fX3_tellPeople_L2 (a_length : Int32) (a_letters : Nat → Int32) : Nat → Int32 → Int32 → (Nat → Int32) → (Nat → Int32) → (Nat → Int32) → (Nat → Int32) → (Nat → Int32) → Int32 → Option ((Int32 × Int32 × Int32 × (Nat → Int32) × (Nat → Int32) × (Nat → Int32) × (Nat → Int32) × (Nat → Int32)) ⊕ (Int32 × Int32 × (Nat → Int32) × (Nat → Int32) × (Nat → Int32) × (Nat → Int32) × (Nat → Int32)))
  | 0, _, _, _, _, _, _, _, _ => none
  | n + 1, v61, v62, g63, g64, g65, g66, g67, v68 =>
    if 6 ≤ v61 then
      some (Sum.inr (v62, v68, g66, g67, g64, g65, g63))
    else
      if v61 ≤ 0 then
        bd8 (fX3_tellOne a_letters a_length v62 v68 g66 g67 g64 g65 g63) fun r81 x82 x83 f84 f85 f86 f87 f88 =>
        if r81 = 0 then
          some (Sum.inl (0, x82, x83, f84, f85, f86, f87, f88))
        else
          fX3_tellPeople_L2 a_length a_letters n (v61 + 1) x82 f88 f86 f87 f84 f85 x83
      else
        bd2 (fX3_takes a_letters a_length v62 44) fun r91 x92 =>
        if r91 = 0 then
          some (Sum.inr (x92, v68, g66, g67, g64, g65, g63))
        else
          bd8 (fX3_tellOne a_letters a_length x92 v68 g66 g67 g64 g65 g63) fun r95 x96 x97 f98 f99 f100 f101 f102 =>
          if r95 = 0 then
            some (Sum.inl (0, x96, x97, f98, f99, f100, f101, f102))
          else
            fX3_tellPeople_L2 a_length a_letters n (v61 + 1) x96 f102 f100 f101 f98 f99 x97
def fX3_tellPeople (a_letters : Nat → Int32) (a_length : Int32) (a_place : Int32) (t_people : Int32) (t_kinds : Nat → Int32) (t_loves : Nat → Int32) (g_many : Nat → Int32) (g_sets : Nat → Int32) (g_chalk : Nat → Int32) : Option (Int32 × Int32 × Int32 × (Nat → Int32) × (Nat → Int32) × (Nat → Int32) × (Nat → Int32) × (Nat → Int32)) :=
  bd1 (fX3_tellPeople_L2 a_length a_letters fl 0 a_place g_chalk g_many g_sets t_kinds t_loves t_people) fun zz =>
  Sum.elim (fun ww => some ww) (fun oo => bdp7 oo fun o72 o73 q74 q75 q76 q77 q78 =>
  bd2 (fX3_next a_letters a_length o72) fun r105 x106 =>
  if r105 = (-1) then
    some (1, x106, o73, q74, q75, q76, q77, q78)
  else
    some (0, x106, o73, q74, q75, q76, q77, q78)) zz
def fX3_lovesAreThere_L2 (t_loves : Nat → Int32) (t_people : Int32) : Nat → Int32 → Option ((Int32) ⊕ (Unit))
  | 0, _ => none
  | n + 1, v10 =>
    if t_people ≤ v10 then
      some (Sum.inr ())
    else
      bd1 (ix v10 6) fun j15 =>
      if (t_loves j15) < t_people then
        fX3_lovesAreThere_L2 t_loves t_people n (v10 + 1)
      else
        some (Sum.inl (0))
def fX3_lovesAreThere (t_people : Int32) (t_loves : Nat → Int32) : Option (Int32) :=
  bd1 (fX3_lovesAreThere_L2 t_loves t_people fl 0) fun zz =>
  Sum.elim (fun ww => some ww) (fun oo => some (1)) zz
def fX3_tell (a_letters : Nat → Int32) (a_length : Int32) (t_kinds : Nat → Int32) (t_loves : Nat → Int32) (g_many : Nat → Int32) (g_sets : Nat → Int32) (g_chalk : Nat → Int32) : Option (Int32 × Int32 × Int32 × (Nat → Int32) × (Nat → Int32) × (Nat → Int32) × (Nat → Int32) × (Nat → Int32) × Int32 × Int32) :=
  bd4 (fX3_tellSundays a_letters a_length 0) fun r1 x2 x3 x4 =>
  if r1 = 0 then
    some (0, x2, 0, t_kinds, t_loves, g_many, g_sets, g_chalk, x3, x4)
  else
    bd2 (fX3_takes a_letters a_length x2 59) fun r7 x8 =>
    if r7 = 0 then
      some (0, x8, 0, t_kinds, t_loves, g_many, g_sets, g_chalk, x3, x4)
    else
      bd8 (fX3_tellPeople a_letters a_length x8 0 t_kinds t_loves g_many g_sets g_chalk) fun r11 x12 x13 f14 f15 f16 f17 f18 =>
      if r11 = 0 then
        some (0, x12, x13, f14, f15, f16, f17, f18, x3, x4)
      else
        bd1 (fX3_lovesAreThere x13 f15) fun r21 =>
        if r21 = 0 then
          some (0, x12, x13, f14, f15, f16, f17, f18, x3, x4)
        else
          some (1, x12, x13, f14, f15, f16, f17, f18, x3, x4)
theorem cal_X3_put : CalV yX3_put cX3_put 2 (some .int) RX3 1 := ⟨t_300, t_298, t_299, t_41, by decide +kernel⟩
set_option maxHeartbeats 4000000 in
set_option maxRecDepth 100000 in
theorem cX3_put_ok (l : Launch) (d : va_G) (cy : Nat → ClassId) (a0 a1 : Nat) (a_letters : Nat → Int32) (a_length : Int32) (a_place : Int32) (i1 : Int32) (r : Int32) (a_letters_r : Nat → Int32) (a_length_r : Int32) (h0 : fX3_put a_letters a_length i1 = some (r, a_letters_r, a_length_r)) : CI l yX3_put cX3_put 2 (some .int) 0 0 d cy [.ref a0, .int i1] (wA cy a0 a1 a_letters a_length a_place) (wA cy a0 a1 a_letters_r a_length_r a_place) r := by
  refine CI.of (by decide) (Nat.le_of_ble_eq_true rfl) ?_
  intro p e s m args below meth c A ls Q F hret hw hl
  have hx := F.1
  have hb := F.2.1
  have hl : lv_has ls 2 [(0, .ref a0), (1, .int i1)] := hl
  rw [fX3_put] at h0
  refine lv_aload_n hx hb dX3_put_0 rfl (lv_at hl 0 rfl) ?_
  refine g_get F inG3 hw 0 rfl rfl 1 (by decide) t_152 (fun _ h9 => h9) rfl dX3_put_1 ?_
  refine lv_bipush (v := 100) hx hb dX3_put_4 (by decide) ?_
  refine lv_icmp_ge (tgt := 29) hx hb dX3_put_6 (by decide) (fun c1 => ?_) (fun c1 => ?_)
  · rw [if_pos c1] at h0
    refine lv_aload_n hx hb dX3_put_29 rfl (lv_at hl 0 rfl) ?_
    refine g_get F inG3 hw 0 rfl rfl 1 (by decide) t_152 (fun _ h9 => h9) rfl dX3_put_30 ?_
    obtain ⟨rfl, rfl, rfl⟩ := inj3 h0
    exact hret _ _ _ _ hw dX3_put_33
  · rw [if_neg c1] at h0
    refine lv_aload_n hx hb dX3_put_9 rfl (lv_at hl 0 rfl) ?_
    refine g_get F inG3 hw 0 rfl rfl 0 (by decide) t_151 (fun _ h9 => h9) rfl dX3_put_10 ?_
    refine lv_aload_n hx hb dX3_put_13 rfl (lv_at hl 0 rfl) ?_
    refine g_get F inG3 hw 0 rfl rfl 1 (by decide) t_152 (fun _ h9 => h9) rfl dX3_put_14 ?_
    refine lv_iload_n hx hb dX3_put_17 rfl (lv_at hl 1 rfl) ?_
    obtain ⟨j2, k3, h4⟩ := ob1 h0
    clear h0
    refine g_cast F hw 1 rfl k3 dX3_put_18 (w' := wA cy a0 a1 (upd a_letters j2 (vp_nar .char i1)) a_length a_place) rfl (fun H locs hw => ?_)
    refine lv_aload_n hx hb dX3_put_19 rfl (lv_at hl 0 rfl) ?_
    refine lv_dup hx hb dX3_put_20 rfl ?_
    refine g_get F inG3 hw 0 rfl rfl 1 (by decide) t_152 (fun _ h9 => h9) rfl dX3_put_21 ?_
    refine lv_iconst (v := 1) hx hb dX3_put_24 (by decide) ?_
    refine lv_iadd hx hb dX3_put_25 ?_
    refine g_put F inG3 tyX3 tyX3_ok nmX3 hw 0 rfl rfl 1 (by decide) t_152 (fun _ h9 => h9) rfl (ty := .int) (by decide +kernel) rfl rfl (Nat.le_of_ble_eq_true rfl) dX3_put_26 (w' := wA cy a0 a1 (upd a_letters j2 (vp_nar .char i1)) (a_length + 1) a_place) rfl (fun H locs hw => ?_)
    refine lv_aload_n hx hb dX3_put_29 rfl (lv_at hl 0 rfl) ?_
    refine g_get F inG3 hw 0 rfl rfl 1 (by decide) t_152 (fun _ h9 => h9) rfl dX3_put_30 ?_
    obtain ⟨rfl, rfl, rfl⟩ := inj3 h4
    exact hret _ _ _ _ hw dX3_put_33
theorem cal_X3_wipe : CalV yX3_wipe cX3_wipe 1 none RX3 0 := ⟨t_453, t_451, t_452, t_41, by decide +kernel⟩
set_option maxHeartbeats 4000000 in
set_option maxRecDepth 100000 in
theorem cX3_wipe_ok (l : Launch) (d : va_G) (cy : Nat → ClassId) (a0 a1 : Nat) (a_letters : Nat → Int32) (a_length : Int32) (a_place : Int32) (a_length_r : Int32) (a_place_r : Int32) (h0 : fX3_wipe = some (a_length_r, a_place_r)) : CV l yX3_wipe cX3_wipe 1 none 0 0 d cy [.ref a0] (wA cy a0 a1 a_letters a_length a_place) (wA cy a0 a1 a_letters a_length_r a_place_r) := by
  refine CV.of (by decide) (Nat.le_of_ble_eq_true rfl) ?_
  intro p e s m args below meth c A ls Q F hret hw hl
  have hx := F.1
  have hb := F.2.1
  have hl : lv_has ls 1 [(0, .ref a0)] := hl
  rw [fX3_wipe] at h0
  refine lv_aload_n hx hb dX3_wipe_0 rfl (lv_at hl 0 rfl) ?_
  refine lv_iconst (v := 0) hx hb dX3_wipe_1 (by decide) ?_
  refine g_put F inG3 tyX3 tyX3_ok nmX3 hw 0 rfl rfl 1 (by decide) t_152 (fun _ h9 => h9) rfl (ty := .int) (by decide +kernel) rfl rfl (Nat.le_of_ble_eq_true rfl) dX3_wipe_2 (w' := wA cy a0 a1 a_letters 0 a_place) rfl (fun H locs hw => ?_)
  refine lv_aload_n hx hb dX3_wipe_5 rfl (lv_at hl 0 rfl) ?_
  refine lv_iconst (v := 0) hx hb dX3_wipe_6 (by decide) ?_
  refine g_put F inG3 tyX3 tyX3_ok nmX3 hw 0 rfl rfl 2 (by decide) t_154 (fun _ h9 => h9) rfl (ty := .int) (by decide +kernel) rfl rfl (Nat.le_of_ble_eq_true rfl) dX3_wipe_7 (w' := wA cy a0 a1 a_letters 0 0) rfl (fun H locs hw => ?_)
  obtain ⟨rfl, rfl⟩ := inj2 h0
  exact hret _ _ _ _ hw dX3_wipe_10
theorem cal_X3_next : CalV yX3_next cX3_next 1 (some .int) RX3 0 := ⟨t_333, t_331, t_332, t_41, by decide +kernel⟩
set_option maxHeartbeats 4000000 in
set_option maxRecDepth 100000 in
theorem cX3_next_ok (l : Launch) (d : va_G) (cy : Nat → ClassId) (a0 a1 : Nat) (a_letters : Nat → Int32) (a_length : Int32) (a_place : Int32) (r : Int32) (a_place_r : Int32) (h0 : fX3_next a_letters a_length a_place = some (r, a_place_r)) : CI l yX3_next cX3_next 1 (some .int) 0 0 d cy [.ref a0] (wA cy a0 a1 a_letters a_length a_place) (wA cy a0 a1 a_letters a_length a_place_r) r := by
  refine CI.of (by decide) (Nat.le_of_ble_eq_true rfl) ?_
  intro p e s m args below meth c A ls Q F hret hw hl
  have hx := F.1
  have hb := F.2.1
  have hl : lv_has ls 1 [(0, .ref a0)] := hl
  rw [fX3_next] at h0
  obtain ⟨o14, h22, h23⟩ := ob1 h0
  clear h0
  have kont11 : ∀ (H : Heap) (locs : List Loc) (ls : Array Slot), Wd d A s.heap (wA cy a0 a1 a_letters a_length o14) H locs → lv_has ls 1 [(0, .ref a0)] → W p l e (rmo 0 0) s m args below meth c H locs 0 0 Q (F0 m 38 ls []) := by
    intro H locs ls hw hl
    clear h22
    refine lv_aload_n hx hb dX3_next_38 rfl (lv_at hl 0 rfl) ?_
    refine g_get F inG3 hw 0 rfl rfl 2 (by decide) t_154 (fun _ h9 => h9) rfl dX3_next_39 ?_
    refine lv_aload_n hx hb dX3_next_42 rfl (lv_at hl 0 rfl) ?_
    refine g_get F inG3 hw 0 rfl rfl 1 (by decide) t_152 (fun _ h9 => h9) rfl dX3_next_43 ?_
    refine lv_icmp_ge (tgt := 61) hx hb dX3_next_46 (by decide) (fun c19 => ?_) (fun c19 => ?_)
    · rw [if_pos c19] at h23
      refine lv_iconst (v := (-1)) hx hb dX3_next_61 (by decide) ?_
      obtain ⟨rfl, rfl⟩ := inj2 h23
      exact hret _ _ _ _ hw dX3_next_62
    · rw [if_neg c19] at h23
      refine lv_aload_n hx hb dX3_next_49 rfl (lv_at hl 0 rfl) ?_
      refine g_get F inG3 hw 0 rfl rfl 0 (by decide) t_151 (fun _ h9 => h9) rfl dX3_next_50 ?_
      refine lv_aload_n hx hb dX3_next_53 rfl (lv_at hl 0 rfl) ?_
      refine g_get F inG3 hw 0 rfl rfl 2 (by decide) t_154 (fun _ h9 => h9) rfl dX3_next_54 ?_
      obtain ⟨j20, k21, h24⟩ := ob1 h23
      clear h23
      refine g_cald F hw 1 rfl k21 dX3_next_57 ?_
      refine lv_goto (tgt := 62) hx hb dX3_next_58 (by decide) ?_
      obtain ⟨rfl, rfl⟩ := inj2 h24
      exact hret _ _ _ _ hw dX3_next_62
  clear h23
  have loop13 : ∀ (n : Nat) (v10 : Int32) (H : Heap) (locs : List Loc) (ls : Array Slot), Wd d A s.heap (wA cy a0 a1 a_letters a_length v10) H locs → lv_has ls 1 [(0, .ref a0)] → fX3_next_L0 a_length a_letters n v10 = some (o14) → W p l e (rmo 0 0) s m args below meth c H locs 0 0 Q (F0 m 0 ls []) := by
    intro n
    induction n with
    | zero =>
      intro v10 H locs ls hw hl h25
      rw [fX3_next_L0] at h25
      cases h25
    | succ n ih12 =>
      intro v10 H locs ls hw hl h26
      rw [fX3_next_L0] at h26
      refine lv_aload_n hx hb dX3_next_0 rfl (lv_at hl 0 rfl) ?_
      refine g_get F inG3 hw 0 rfl rfl 2 (by decide) t_154 (fun _ h9 => h9) rfl dX3_next_1 ?_
      refine lv_aload_n hx hb dX3_next_4 rfl (lv_at hl 0 rfl) ?_
      refine g_get F inG3 hw 0 rfl rfl 1 (by decide) t_152 (fun _ h9 => h9) rfl dX3_next_5 ?_
      refine lv_icmp_ge (tgt := 38) hx hb dX3_next_8 (by decide) (fun c15 => ?_) (fun c15 => ?_)
      · rw [if_pos c15] at h26
        obtain rfl := inj1 h26
        exact kont11 _ _ _ hw (lv_sub hl [0] rfl)
      · rw [if_neg c15] at h26
        refine lv_aload_n hx hb dX3_next_11 rfl (lv_at hl 0 rfl) ?_
        refine g_get F inG3 hw 0 rfl rfl 0 (by decide) t_151 (fun _ h9 => h9) rfl dX3_next_12 ?_
        refine lv_aload_n hx hb dX3_next_15 rfl (lv_at hl 0 rfl) ?_
        refine g_get F inG3 hw 0 rfl rfl 2 (by decide) t_154 (fun _ h9 => h9) rfl dX3_next_16 ?_
        obtain ⟨j16, k17, h27⟩ := ob1 h26
        clear h26
        refine g_cald F hw 1 rfl k17 dX3_next_19 ?_
        refine lv_bipush (v := 32) hx hb dX3_next_20 (by decide) ?_
        refine lv_icmp_ne (tgt := 38) hx hb dX3_next_22 (by decide) (fun c18 => ?_) (fun c18 => ?_)
        · rw [if_neg c18] at h27
          obtain rfl := inj1 h27
          exact kont11 _ _ _ hw (lv_sub hl [0] rfl)
        · rw [if_pos c18] at h27
          refine lv_aload_n hx hb dX3_next_25 rfl (lv_at hl 0 rfl) ?_
          refine lv_dup hx hb dX3_next_26 rfl ?_
          refine g_get F inG3 hw 0 rfl rfl 2 (by decide) t_154 (fun _ h9 => h9) rfl dX3_next_27 ?_
          refine lv_iconst (v := 1) hx hb dX3_next_30 (by decide) ?_
          refine lv_iadd hx hb dX3_next_31 ?_
          refine g_put F inG3 tyX3 tyX3_ok nmX3 hw 0 rfl rfl 2 (by decide) t_154 (fun _ h9 => h9) rfl (ty := .int) (by decide +kernel) rfl rfl (Nat.le_of_ble_eq_true rfl) dX3_next_32 (w' := wA cy a0 a1 a_letters a_length (v10 + 1)) rfl (fun H locs hw => ?_)
          refine lv_goto (tgt := 0) hx hb dX3_next_35 (by decide) ?_
          exact ih12 (v10 + 1) _ _ _ hw (lv_sub hl [0] rfl) h27
  exact loop13 fl a_place _ _ _ hw (lv_sub hl [0] rfl) h22
theorem cal_X3_takes : CalV yX3_takes cX3_takes 2 (some .boolean) RX3 1 := ⟨t_423, t_421, t_422, t_41, by decide +kernel⟩
set_option maxHeartbeats 4000000 in
set_option maxRecDepth 100000 in
theorem cX3_takes_ok (l : Launch) (d : va_G) (cy : Nat → ClassId) (a0 a1 : Nat) (a_letters : Nat → Int32) (a_length : Int32) (a_place : Int32) (i1 : Int32) (r : Int32) (a_place_r : Int32) (h0 : fX3_takes a_letters a_length a_place i1 = some (r, a_place_r)) : CI l yX3_takes cX3_takes 2 (some .boolean) 1 20 d cy [.ref a0, .int i1] (wA cy a0 a1 a_letters a_length a_place) (wA cy a0 a1 a_letters a_length a_place_r) r := by
  refine CZ.of (by decide) (Nat.le_of_ble_eq_true rfl) ?_
  intro p e s m args below meth c A ls Q F hret hw hl
  have hx := F.1
  have hb := F.2.1
  have hl : lv_has ls 2 [(0, .ref a0), (1, .int i1)] := hl
  rw [fX3_takes] at h0
  refine lv_aload_n hx hb dX3_takes_0 rfl (lv_at hl 0 rfl) ?_
  obtain ⟨r1, x2, k3, h5⟩ := ob2 h0
  clear h0
  refine g_vi F (cX3_next_ok l d cy a0 a1 a_letters a_length a_place r1 x2 k3) cal_X3_next t_330 rfl ⟨by decide, by decide⟩ hw (w' := wA cy a0 a1 a_letters a_length x2) Cut.all 0 3 rfl rfl hl.1 (Nat.le_of_ble_eq_true rfl) rfl dX3_takes_1 (fun H locs hw => ?_)
  refine lv_iload_n hx hb dX3_takes_4 rfl (lv_at hl 1 rfl) ?_
  refine lv_icmp_eq (tgt := 10) hx hb dX3_takes_5 (by decide) (fun c4 => ?_) (fun c4 => ?_)
  · rw [if_pos c4] at h5
    refine lv_aload_n hx hb dX3_takes_10 rfl (lv_at hl 0 rfl) ?_
    refine lv_dup hx hb dX3_takes_11 rfl ?_
    refine g_get F inG3 hw 0 rfl rfl 2 (by decide) t_154 (fun _ h9 => h9) rfl dX3_takes_12 ?_
    refine lv_iconst (v := 1) hx hb dX3_takes_15 (by decide) ?_
    refine lv_iadd hx hb dX3_takes_16 ?_
    refine g_put F inG3 tyX3 tyX3_ok nmX3 hw 0 rfl rfl 2 (by decide) t_154 (fun _ h9 => h9) rfl (ty := .int) (by decide +kernel) rfl rfl (Nat.le_of_ble_eq_true rfl) dX3_takes_17 (w' := wA cy a0 a1 a_letters a_length (x2 + 1)) rfl (fun H locs hw => ?_)
    refine lv_iconst (v := 1) hx hb dX3_takes_20 (by decide) ?_
    obtain ⟨rfl, rfl⟩ := inj2 h5
    exact hret _ _ _ _ rfl hw dX3_takes_21
  · rw [if_neg c4] at h5
    refine lv_iconst (v := 0) hx hb dX3_takes_8 (by decide) ?_
    obtain ⟨rfl, rfl⟩ := inj2 h5
    exact hret _ _ _ _ rfl hw dX3_takes_9
theorem cal_X3_takeOneOf : CalV yX3_takeOneOf cX3_takeOneOf 4 (some .int) RX3 1 := ⟨t_329, t_327, t_328, t_41, by decide +kernel⟩
set_option maxHeartbeats 4000000 in
set_option maxRecDepth 100000 in
theorem cX3_takeOneOf_ok (l : Launch) (d : va_G) (cy : Nat → ClassId) (a0 a1 : Nat) (a_letters : Nat → Int32) (a_length : Int32) (a_place : Int32) (sk : Nat) (hsk : sk < 4) (r : Int32) (a_place_r : Int32) (h0 : fX3_takeOneOf a_letters a_length a_place sk = some (r, a_place_r)) : CI l yX3_takeOneOf cX3_takeOneOf 4 (some .int) 4 91 d cy [.ref a0, .ref (cy (10 + sk))] (wA cy a0 a1 a_letters a_length a_place) (wA cy a0 a1 a_letters a_length a_place_r) r := by
  refine CI.of (by decide) (Nat.le_of_ble_eq_true rfl) ?_
  intro p e s m args below meth c A ls Q F hret hw hl
  have hx := F.1
  have hb := F.2.1
  have hl : lv_has ls 4 [(0, .ref a0), (1, .ref (cy (10 + sk)))] := hl
  rw [fX3_takeOneOf] at h0
  refine lv_aload_n hx hb dX3_takeOneOf_0 rfl (lv_at hl 0 rfl) ?_
  obtain ⟨r1, x2, k3, h13⟩ := ob2 h0
  clear h0
  refine g_vi F (cX3_next_ok l d cy a0 a1 a_letters a_length a_place r1 x2 k3) cal_X3_next t_330 rfl ⟨by decide, by decide⟩ hw (w' := wA cy a0 a1 a_letters a_length x2) Cut.all 0 3 rfl rfl hl.1 (Nat.le_of_ble_eq_true rfl) rfl dX3_takeOneOf_1 (fun H locs hw => ?_)
  refine lv_istore_n (lv' := [(2, .int r1), (0, .ref a0), (1, .ref (cy (10 + sk)))]) hx hb dX3_takeOneOf_4 rfl hl (by decide) rfl (fun ls hl => ?_)
  refine lv_iload_n hx hb dX3_takeOneOf_5 rfl (lv_at hl 0 rfl) ?_
  refine lv_iconst (v := (-1)) hx hb dX3_takeOneOf_6 (by decide) ?_
  obtain ⟨x7, h14, h15⟩ := ob1 h13
  clear h13
  have kont8 : ∀ (H : Heap) (locs : List Loc) (ls : Array Slot), Wd d A s.heap (wA cy a0 a1 a_letters a_length x2) H locs → lv_has ls 4 [(0, .ref a0)] → W p l e (rmo 4 91) s m args below meth c H locs 0 0 Q (F0 m 20 ls [.int x7]) := by
    intro H locs ls hw hl
    clear h14
    refine lv_istore_n (lv' := [(3, .int x7), (0, .ref a0)]) hx hb dX3_takeOneOf_20 rfl hl (by decide) rfl (fun ls hl => ?_)
    refine lv_iload_n hx hb dX3_takeOneOf_21 rfl (lv_at hl 0 rfl) ?_
    refine lv_if_lt (tgt := 35) hx hb dX3_takeOneOf_22 (by decide) (fun c12 => ?_) (fun c12 => ?_)
    · rw [if_pos c12] at h15
      refine lv_iload_n hx hb dX3_takeOneOf_35 rfl (lv_at hl 0 rfl) ?_
      obtain ⟨rfl, rfl⟩ := inj2 h15
      exact hret _ _ _ _ hw dX3_takeOneOf_36
    · rw [if_neg c12] at h15
      refine lv_aload_n hx hb dX3_takeOneOf_25 rfl (lv_at hl 1 rfl) ?_
      refine lv_dup hx hb dX3_takeOneOf_26 rfl ?_
      refine g_get F inG3 hw 0 rfl rfl 2 (by decide) t_154 (fun _ h9 => h9) rfl dX3_takeOneOf_27 ?_
      refine lv_iconst (v := 1) hx hb dX3_takeOneOf_30 (by decide) ?_
      refine lv_iadd hx hb dX3_takeOneOf_31 ?_
      refine g_put F inG3 tyX3 tyX3_ok nmX3 hw 0 rfl rfl 2 (by decide) t_154 (fun _ h9 => h9) rfl (ty := .int) (by decide +kernel) rfl rfl (Nat.le_of_ble_eq_true rfl) dX3_takeOneOf_32 (w' := wA cy a0 a1 a_letters a_length (x2 + 1)) rfl (fun H locs hw => ?_)
      refine lv_iload_n hx hb dX3_takeOneOf_35 rfl (lv_at hl 0 rfl) ?_
      obtain ⟨rfl, rfl⟩ := inj2 h15
      exact hret _ _ _ _ hw dX3_takeOneOf_36
  clear h15
  refine lv_icmp_ne (tgt := 14) hx hb dX3_takeOneOf_7 (by decide) (fun c9 => ?_) (fun c9 => ?_)
  · rw [if_neg c9] at h14
    refine lv_aload_n hx hb dX3_takeOneOf_14 rfl (lv_at hl 2 rfl) ?_
    refine lv_iload_n hx hb dX3_takeOneOf_15 rfl (lv_at hl 0 rfl) ?_
    refine lv_i2c hx hb dX3_takeOneOf_16 rfl ?_
    obtain ⟨r10, k11, h16⟩ := ob1 h14
    clear h14
    refine g_ki F (cJ0_indexOf_0f7a4_ok l d cy sk ((Int32.toUInt32 r1 % 65536).toInt32) hsk r10 k11) cal_J0_indexOf_0f7a4 t_334 rfl ⟨by decide, by decide⟩ hw (w' := wA cy a0 a1 a_letters a_length x2) Cut.nil hsk hl.1 (Nat.le_of_ble_eq_true rfl) rfl dX3_takeOneOf_17 (fun H locs hw => ?_)
    obtain rfl := inj1 h16
    exact kont8 _ _ _ hw (lv_sub hl [1] rfl)
  · rw [if_pos c9] at h14
    refine lv_iconst (v := (-1)) hx hb dX3_takeOneOf_10 (by decide) ?_
    refine lv_goto (tgt := 20) hx hb dX3_takeOneOf_11 (by decide) ?_
    obtain rfl := inj1 h14
    exact kont8 _ _ _ hw (lv_sub hl [1] rfl)
theorem cal_X3_takeNumber : CalV yX3_takeNumber cX3_takeNumber 2 (some .int) RX3 0 := ⟨t_436, t_434, t_435, t_41, by decide +kernel⟩
set_option maxHeartbeats 4000000 in
set_option maxRecDepth 100000 in
theorem cX3_takeNumber_ok (l : Launch) (d : va_G) (cy : Nat → ClassId) (a0 a1 : Nat) (a_letters : Nat → Int32) (a_length : Int32) (a_place : Int32) (r : Int32) (a_place_r : Int32) (h0 : fX3_takeNumber a_letters a_length a_place = some (r, a_place_r)) : CI l yX3_takeNumber cX3_takeNumber 2 (some .int) 5 114 d cy [.ref a0] (wA cy a0 a1 a_letters a_length a_place) (wA cy a0 a1 a_letters a_length a_place_r) r := by
  refine CI.of (by decide) (Nat.le_of_ble_eq_true rfl) ?_
  intro p e s m args below meth c A ls Q F hret hw hl
  have hx := F.1
  have hb := F.2.1
  have hl : lv_has ls 2 [(0, .ref a0)] := hl
  rw [fX3_takeNumber] at h0
  refine lv_aload_n hx hb dX3_takeNumber_0 rfl (lv_at hl 0 rfl) ?_
  refine g_ldcS F 2 rfl dX3_takeNumber_1 ?_
  obtain ⟨r1, x2, k3, h10⟩ := ob2 h0
  clear h0
  refine g_vi F (cX3_takeOneOf_ok l d cy a0 a1 a_letters a_length a_place 2 (by decide) r1 x2 k3) cal_X3_takeOneOf t_326 rfl ⟨by decide, by decide⟩ hw (w' := wA cy a0 a1 a_letters a_length x2) Cut.all 0 3 rfl rfl hl.1 (Nat.le_of_ble_eq_true rfl) rfl dX3_takeNumber_3 (fun H locs hw => ?_)
  refine lv_istore_n (lv' := [(1, .int r1), (0, .ref a0)]) hx hb dX3_takeNumber_6 rfl hl (by decide) rfl (fun ls hl => ?_)
  refine lv_iload_n hx hb dX3_takeNumber_7 rfl (lv_at hl 0 rfl) ?_
  refine lv_if_lt (tgt := 78) hx hb dX3_takeNumber_8 (by decide) (fun c4 => ?_) (fun c4 => ?_)
  · rw [if_pos c4] at h10
    refine lv_iload_n hx hb dX3_takeNumber_78 rfl (lv_at hl 0 rfl) ?_
    obtain ⟨rfl, rfl⟩ := inj2 h10
    exact hret _ _ _ _ hw dX3_takeNumber_79
  · rw [if_neg c4] at h10
    refine lv_aload_n hx hb dX3_takeNumber_11 rfl (lv_at hl 1 rfl) ?_
    refine g_get F inG3 hw 0 rfl rfl 2 (by decide) t_154 (fun _ h9 => h9) rfl dX3_takeNumber_12 ?_
    refine lv_aload_n hx hb dX3_takeNumber_15 rfl (lv_at hl 1 rfl) ?_
    refine g_get F inG3 hw 0 rfl rfl 1 (by decide) t_152 (fun _ h9 => h9) rfl dX3_takeNumber_16 ?_
    refine lv_icmp_ge (tgt := 78) hx hb dX3_takeNumber_19 (by decide) (fun c5 => ?_) (fun c5 => ?_)
    · rw [if_pos c5] at h10
      refine lv_iload_n hx hb dX3_takeNumber_78 rfl (lv_at hl 0 rfl) ?_
      obtain ⟨rfl, rfl⟩ := inj2 h10
      exact hret _ _ _ _ hw dX3_takeNumber_79
    · rw [if_neg c5] at h10
      refine lv_aload_n hx hb dX3_takeNumber_22 rfl (lv_at hl 1 rfl) ?_
      refine g_get F inG3 hw 0 rfl rfl 0 (by decide) t_151 (fun _ h9 => h9) rfl dX3_takeNumber_23 ?_
      refine lv_aload_n hx hb dX3_takeNumber_26 rfl (lv_at hl 1 rfl) ?_
      refine g_get F inG3 hw 0 rfl rfl 2 (by decide) t_154 (fun _ h9 => h9) rfl dX3_takeNumber_27 ?_
      obtain ⟨j6, k7, h11⟩ := ob1 h10
      clear h10
      refine g_cald F hw 1 rfl k7 dX3_takeNumber_30 ?_
      refine lv_bipush (v := 48) hx hb dX3_takeNumber_31 (by decide) ?_
      refine lv_icmp_lt (tgt := 78) hx hb dX3_takeNumber_33 (by decide) (fun c8 => ?_) (fun c8 => ?_)
      · rw [if_pos c8] at h11
        refine lv_iload_n hx hb dX3_takeNumber_78 rfl (lv_at hl 0 rfl) ?_
        obtain ⟨rfl, rfl⟩ := inj2 h11
        exact hret _ _ _ _ hw dX3_takeNumber_79
      · rw [if_neg c8] at h11
        refine lv_aload_n hx hb dX3_takeNumber_36 rfl (lv_at hl 1 rfl) ?_
        refine g_get F inG3 hw 0 rfl rfl 0 (by decide) t_151 (fun _ h9 => h9) rfl dX3_takeNumber_37 ?_
        refine lv_aload_n hx hb dX3_takeNumber_40 rfl (lv_at hl 1 rfl) ?_
        refine g_get F inG3 hw 0 rfl rfl 2 (by decide) t_154 (fun _ h9 => h9) rfl dX3_takeNumber_41 ?_
        refine g_cald F hw 1 rfl k7 dX3_takeNumber_44 ?_
        refine lv_bipush (v := 57) hx hb dX3_takeNumber_45 (by decide) ?_
        refine lv_icmp_gt (tgt := 78) hx hb dX3_takeNumber_47 (by decide) (fun c9 => ?_) (fun c9 => ?_)
        · rw [if_pos c9] at h11
          refine lv_iload_n hx hb dX3_takeNumber_78 rfl (lv_at hl 0 rfl) ?_
          obtain ⟨rfl, rfl⟩ := inj2 h11
          exact hret _ _ _ _ hw dX3_takeNumber_79
        · rw [if_neg c9] at h11
          refine lv_bipush (v := 10) hx hb dX3_takeNumber_50 (by decide) ?_
          refine lv_iload_n hx hb dX3_takeNumber_52 rfl (lv_at hl 0 rfl) ?_
          refine lv_imul hx hb dX3_takeNumber_53 ?_
          refine lv_aload_n hx hb dX3_takeNumber_54 rfl (lv_at hl 1 rfl) ?_
          refine g_get F inG3 hw 0 rfl rfl 0 (by decide) t_151 (fun _ h9 => h9) rfl dX3_takeNumber_55 ?_
          refine lv_aload_n hx hb dX3_takeNumber_58 rfl (lv_at hl 1 rfl) ?_
          refine g_get F inG3 hw 0 rfl rfl 2 (by decide) t_154 (fun _ h9 => h9) rfl dX3_takeNumber_59 ?_
          refine g_cald F hw 1 rfl k7 dX3_takeNumber_62 ?_
          refine lv_iadd hx hb dX3_takeNumber_63 ?_
          refine lv_bipush (v := 48) hx hb dX3_takeNumber_64 (by decide) ?_
          refine lv_isub hx hb dX3_takeNumber_66 ?_
          refine lv_istore_n (lv' := [(1, .int (((10 * r1) + (a_letters j6)) - 48)), (0, .ref a0)]) hx hb dX3_takeNumber_67 rfl hl (by decide) rfl (fun ls hl => ?_)
          refine lv_aload_n hx hb dX3_takeNumber_68 rfl (lv_at hl 1 rfl) ?_
          refine lv_dup hx hb dX3_takeNumber_69 rfl ?_
          refine g_get F inG3 hw 0 rfl rfl 2 (by decide) t_154 (fun _ h9 => h9) rfl dX3_takeNumber_70 ?_
          refine lv_iconst (v := 1) hx hb dX3_takeNumber_73 (by decide) ?_
          refine lv_iadd hx hb dX3_takeNumber_74 ?_
          refine g_put F inG3 tyX3 tyX3_ok nmX3 hw 0 rfl rfl 2 (by decide) t_154 (fun _ h9 => h9) rfl (ty := .int) (by decide +kernel) rfl rfl (Nat.le_of_ble_eq_true rfl) dX3_takeNumber_75 (w' := wA cy a0 a1 a_letters a_length (x2 + 1)) rfl (fun H locs hw => ?_)
          refine lv_iload_n hx hb dX3_takeNumber_78 rfl (lv_at hl 0 rfl) ?_
          obtain ⟨rfl, rfl⟩ := inj2 h11
          exact hret _ _ _ _ hw dX3_takeNumber_79
theorem cal_X3_tellSundays : CalV yX3_tellSundays cX3_tellSundays 4 (some .boolean) RX3 1 := ⟨t_324, t_322, t_323, t_41, by decide +kernel⟩
set_option maxHeartbeats 4000000 in
set_option maxRecDepth 100000 in
theorem cX3_tellSundays_ok (l : Launch) (d : va_G) (cy : Nat → ClassId) (a0 a1 g0 g1 g2 g3 : Nat) (a_letters : Nat → Int32) (a_length : Int32) (a_place : Int32) (g_many : Nat → Int32) (g_sets : Nat → Int32) (g_chalk : Nat → Int32) (g_wet : Int32) (g_harvest : Int32) (g_draw : Int32) (r : Int32) (a_place_r : Int32) (g_wet_r : Int32) (g_harvest_r : Int32) (h0 : fX3_tellSundays a_letters a_length a_place = some (r, a_place_r, g_wet_r, g_harvest_r)) : CI l yX3_tellSundays cX3_tellSundays 4 (some .boolean) 5 114 d cy [.ref a0, .ref g0] (List.flatten [wA cy a0 a1 a_letters a_length a_place, wG cy g0 g1 g2 g3 g_many g_sets g_chalk g_wet g_harvest g_draw]) (List.flatten [wA cy a0 a1 a_letters a_length a_place_r, wG cy g0 g1 g2 g3 g_many g_sets g_chalk g_wet_r g_harvest_r g_draw]) r := by
  refine CZ.of (by decide) (Nat.le_of_ble_eq_true rfl) ?_
  intro p e s m args below meth c A ls Q F hret hw hl
  have hx := F.1
  have hb := F.2.1
  have hl : lv_has ls 4 [(0, .ref a0), (1, .ref g0)] := hl
  rw [fX3_tellSundays] at h0
  refine lv_aload_n hx hb dX3_tellSundays_0 rfl (lv_at hl 1 rfl) ?_
  refine lv_iconst (v := 0) hx hb dX3_tellSundays_1 (by decide) ?_
  refine g_put F inG0 tyX0 tyX0_ok nmX0 hw 2 rfl rfl 3 (by decide) t_80 (fun _ h9 => h9) rfl (ty := .int) (by decide +kernel) rfl rfl (Nat.le_of_ble_eq_true rfl) dX3_tellSundays_2 (w' := List.flatten [wA cy a0 a1 a_letters a_length a_place, wG cy g0 g1 g2 g3 g_many g_sets g_chalk 0 g_harvest g_draw]) rfl (fun H locs hw => ?_)
  refine lv_aload_n hx hb dX3_tellSundays_5 rfl (lv_at hl 1 rfl) ?_
  refine lv_iconst (v := 0) hx hb dX3_tellSundays_6 (by decide) ?_
  refine g_put F inG0 tyX0 tyX0_ok nmX0 hw 2 rfl rfl 4 (by decide) t_84 (fun _ h9 => h9) rfl (ty := .int) (by decide +kernel) rfl rfl (Nat.le_of_ble_eq_true rfl) dX3_tellSundays_7 (w' := List.flatten [wA cy a0 a1 a_letters a_length a_place, wG cy g0 g1 g2 g3 g_many g_sets g_chalk 0 0 g_draw]) rfl (fun H locs hw => ?_)
  refine lv_iconst (v := 0) hx hb dX3_tellSundays_10 (by decide) ?_
  refine lv_istore_n (lv' := [(2, .int 0), (0, .ref a0), (1, .ref g0)]) hx hb dX3_tellSundays_11 rfl hl (by decide) rfl (fun ls hl => ?_)
  obtain ⟨zz31, h32, h33⟩ := ob1 h0
  clear h0
  have kont19 : ∀ o22 o23 o24, zz31 = Sum.inr (o22, o23, o24) → ∀ (H : Heap) (locs : List Loc) (ls : Array Slot), Wd d A s.heap (List.flatten [wA cy a0 a1 a_letters a_length o22, wG cy g0 g1 g2 g3 g_many g_sets g_chalk o23 o24 g_draw]) H locs → lv_has ls 4 [] → W p l e (rmo 5 114) s m args below meth c H locs 0 0 Q (F0 m 65 ls []) := by
    intro o22 o23 o24 hz H locs ls hw hl
    subst hz
    clear h32
    have h34 : (some (1, o22, o23, o24)) = some (r, a_place_r, g_wet_r, g_harvest_r) := h33
    clear h33
    refine lv_iconst (v := 1) hx hb dX3_tellSundays_65 (by decide) ?_
    obtain ⟨rfl, rfl, rfl, rfl⟩ := inj4 h34
    exact hret _ _ _ _ rfl hw dX3_tellSundays_66
  have hretl : ∀ ww, zz31 = Sum.inl ww → ww = (r, a_place_r, g_wet_r, g_harvest_r) := by
    intro ww hz
    subst hz
    exact Option.some.inj h33
  clear h33
  have loop21 : ∀ (n : Nat) (v15 : Int32) (v16 : Int32) (v17 : Int32) (v18 : Int32) (H : Heap) (locs : List Loc) (ls : Array Slot), Wd d A s.heap (List.flatten [wA cy a0 a1 a_letters a_length v16, wG cy g0 g1 g2 g3 g_many g_sets g_chalk v18 v17 g_draw]) H locs → lv_has ls 4 [(0, .ref a0), (1, .ref g0), (2, .int v15)] → fX3_tellSundays_L12 a_length a_letters n v15 v16 v17 v18 = some zz31 → W p l e (rmo 5 114) s m args below meth c H locs 0 0 Q (F0 m 12 ls []) := by
    intro n
    induction n with
    | zero =>
      intro v15 v16 v17 v18 H locs ls hw hl h35
      rw [fX3_tellSundays_L12] at h35
      cases h35
    | succ n ih20 =>
      intro v15 v16 v17 v18 H locs ls hw hl h36
      rw [fX3_tellSundays_L12] at h36
      refine lv_iload_n hx hb dX3_tellSundays_12 rfl (lv_at hl 2 rfl) ?_
      refine lv_bipush (v := 6) hx hb dX3_tellSundays_13 (by decide) ?_
      refine lv_icmp_ge (tgt := 65) hx hb dX3_tellSundays_15 (by decide) (fun c25 => ?_) (fun c25 => ?_)
      · rw [if_pos c25] at h36
        exact kont19 v16 v18 v17 (Option.some.inj h36).symm _ _ _ hw (lv_sub hl [] rfl)
      · rw [if_neg c25] at h36
        refine lv_aload_n hx hb dX3_tellSundays_18 rfl (lv_at hl 0 rfl) ?_
        refine g_ldcS F 0 rfl dX3_tellSundays_19 ?_
        obtain ⟨r26, x27, k28, h37⟩ := ob2 h36
        clear h36
        refine g_vi F (cX3_takeOneOf_ok l d cy a0 a1 a_letters a_length v16 0 (by decide) r26 x27 k28) cal_X3_takeOneOf t_326 rfl ⟨by decide, by decide⟩ hw (w' := List.flatten [wA cy a0 a1 a_letters a_length x27, wG cy g0 g1 g2 g3 g_many g_sets g_chalk v18 v17 g_draw]) (SCut.cut (SCut.one (SCut.take SCut.rf (SCut.skip SCut.none)))) 0 3 rfl rfl hl.1 (Nat.le_of_ble_eq_true rfl) rfl dX3_tellSundays_21 (fun H locs hw => ?_)
        refine lv_istore_n (lv' := [(3, .int r26), (0, .ref a0), (1, .ref g0), (2, .int v15)]) hx hb dX3_tellSundays_24 rfl hl (by decide) rfl (fun ls hl => ?_)
        refine lv_iload_n hx hb dX3_tellSundays_25 rfl (lv_at hl 0 rfl) ?_
        refine lv_if_ge (tgt := 31) hx hb dX3_tellSundays_26 (by decide) (fun c29 => ?_) (fun c29 => ?_)
        · rw [if_pos c29] at h37
          refine lv_aload_n hx hb dX3_tellSundays_31 rfl (lv_at hl 2 rfl) ?_
          refine lv_dup hx hb dX3_tellSundays_32 rfl ?_
          refine g_get F inG0 hw 2 rfl rfl 3 (by decide) t_80 (fun _ h9 => h9) rfl dX3_tellSundays_33 ?_
          refine lv_iload_n hx hb dX3_tellSundays_36 rfl (lv_at hl 0 rfl) ?_
          refine lv_iconst (v := 1) hx hb dX3_tellSundays_37 (by decide) ?_
          refine lv_iand hx hb dX3_tellSundays_38 ?_
          refine lv_iload_n hx hb dX3_tellSundays_39 rfl (lv_at hl 3 rfl) ?_
          refine lv_ishl hx hb dX3_tellSundays_40 ?_
          refine lv_ior hx hb dX3_tellSundays_41 ?_
          refine g_put F inG0 tyX0 tyX0_ok nmX0 hw 2 rfl rfl 3 (by decide) t_80 (fun _ h9 => h9) rfl (ty := .int) (by decide +kernel) rfl rfl (Nat.le_of_ble_eq_true rfl) dX3_tellSundays_42 (w' := List.flatten [wA cy a0 a1 a_letters a_length x27, wG cy g0 g1 g2 g3 g_many g_sets g_chalk (v18 ||| ((r26 &&& 1) <<< (v15 &&& 31))) v17 g_draw]) rfl (fun H locs hw => ?_)
          refine lv_aload_n hx hb dX3_tellSundays_45 rfl (lv_at hl 2 rfl) ?_
          refine lv_dup hx hb dX3_tellSundays_46 rfl ?_
          refine g_get F inG0 hw 2 rfl rfl 4 (by decide) t_84 (fun _ h9 => h9) rfl dX3_tellSundays_47 ?_
          refine lv_iload_n hx hb dX3_tellSundays_50 rfl (lv_at hl 0 rfl) ?_
          refine lv_iconst (v := 1) hx hb dX3_tellSundays_51 (by decide) ?_
          refine lv_ishr hx hb dX3_tellSundays_52 ?_
          refine lv_iload_n hx hb dX3_tellSundays_53 rfl (lv_at hl 3 rfl) ?_
          refine lv_ishl hx hb dX3_tellSundays_54 ?_
          refine lv_ior hx hb dX3_tellSundays_55 ?_
          refine g_put F inG0 tyX0 tyX0_ok nmX0 hw 2 rfl rfl 4 (by decide) t_84 (fun _ h9 => h9) rfl (ty := .int) (by decide +kernel) rfl rfl (Nat.le_of_ble_eq_true rfl) dX3_tellSundays_56 (w' := List.flatten [wA cy a0 a1 a_letters a_length x27, wG cy g0 g1 g2 g3 g_many g_sets g_chalk (v18 ||| ((r26 &&& 1) <<< (v15 &&& 31))) (v17 ||| ((r26 >>> (1 &&& 31)) <<< (v15 &&& 31))) g_draw]) rfl (fun H locs hw => ?_)
          refine lv_iinc (v := (v15 + 1)) (lv' := [(2, .int (v15 + 1)), (3, .int r26), (0, .ref a0), (1, .ref g0)]) hx hb dX3_tellSundays_59 hl (k := 3) rfl rfl (by decide) rfl (fun ls hl => ?_)
          refine lv_goto (tgt := 12) hx hb dX3_tellSundays_62 (by decide) ?_
          exact ih20 (v15 + 1) x27 (v17 ||| ((r26 >>> (1 &&& 31)) <<< (v15 &&& 31))) (v18 ||| ((r26 &&& 1) <<< (v15 &&& 31))) _ _ _ hw (lv_sub hl [2, 3, 0] rfl) h37
        · rw [if_neg c29] at h37
          refine lv_iconst (v := 0) hx hb dX3_tellSundays_29 (by decide) ?_
          cases hretl _ (Option.some.inj h37).symm
          exact hret _ _ _ _ rfl hw dX3_tellSundays_30
  exact loop21 fl 0 a_place 0 0 _ _ _ hw (lv_sub hl [1, 2, 0] rfl) h32
theorem cal_X3_tellHalves : CalV yX3_tellHalves cX3_tellHalves 7 (some .boolean) RX3 3 := ⟨t_443, t_441, t_442, t_41, by decide +kernel⟩
set_option maxHeartbeats 4000000 in
set_option maxRecDepth 100000 in
theorem cX3_tellHalves_ok (l : Launch) (d : va_G) (cy : Nat → ClassId) (a0 a1 g0 g1 g2 g3 : Nat) (a_letters : Nat → Int32) (a_length : Int32) (a_place : Int32) (g_many : Nat → Int32) (g_sets : Nat → Int32) (g_chalk : Nat → Int32) (g_wet : Int32) (g_harvest : Int32) (g_draw : Int32) (i2 : Int32) (i3 : Int32) (r : Int32) (a_place_r : Int32) (g_many_r : Nat → Int32) (g_sets_r : Nat → Int32) (h0 : fX3_tellHalves a_letters a_length a_place g_many g_sets i2 i3 = some (r, a_place_r, g_many_r, g_sets_r)) : CI l yX3_tellHalves cX3_tellHalves 7 (some .boolean) 1 24 d cy [.ref a0, .ref g0, .int i2, .int i3] (List.flatten [wA cy a0 a1 a_letters a_length a_place, wG cy g0 g1 g2 g3 g_many g_sets g_chalk g_wet g_harvest g_draw]) (List.flatten [wA cy a0 a1 a_letters a_length a_place_r, wG cy g0 g1 g2 g3 g_many_r g_sets_r g_chalk g_wet g_harvest g_draw]) r := by
  refine CZ.of (by decide) (Nat.le_of_ble_eq_true rfl) ?_
  intro p e s m args below meth c A ls Q F hret hw hl
  have hx := F.1
  have hb := F.2.1
  have hl : lv_has ls 7 [(0, .ref a0), (1, .ref g0), (2, .int i2), (3, .int i3)] := hl
  rw [fX3_tellHalves] at h0
  refine lv_iconst (v := (-1)) hx hb dX3_tellHalves_0 (by decide) ?_
  refine lv_istore (lv' := [(4, .int (-1)), (0, .ref a0), (1, .ref g0), (2, .int i2), (3, .int i3)]) hx hb dX3_tellHalves_1 hl (by decide) rfl (fun ls hl => ?_)
  refine lv_iconst (v := 0) hx hb dX3_tellHalves_3 (by decide) ?_
  refine lv_istore (lv' := [(5, .int 0), (4, .int (-1)), (0, .ref a0), (1, .ref g0), (2, .int i2), (3, .int i3)]) hx hb dX3_tellHalves_4 hl (by decide) rfl (fun ls hl => ?_)
  obtain ⟨o36, q37, q38, o39, h52, h53⟩ := ob4 h0
  clear h0
  have kont33 : ∀ (H : Heap) (locs : List Loc) (ls : Array Slot), Wd d A s.heap (List.flatten [wA cy a0 a1 a_letters a_length o36, wG cy g0 g1 g2 g3 q37 q38 g_chalk g_wet g_harvest g_draw]) H locs → lv_has ls 7 [(4, .int o39)] → W p l e (rmo 1 24) s m args below meth c H locs 0 0 Q (F0 m 75 ls []) := by
    intro H locs ls hw hl
    clear h52
    refine lv_iload hx hb dX3_tellHalves_75 (lv_at hl 0 rfl) ?_
    refine lv_if_lt (tgt := 84) hx hb dX3_tellHalves_77 (by decide) (fun c51 => ?_) (fun c51 => ?_)
    · rw [if_pos c51] at h53
      refine lv_iconst (v := 0) hx hb dX3_tellHalves_84 (by decide) ?_
      obtain ⟨rfl, rfl, rfl, rfl⟩ := inj4 h53
      exact hret _ _ _ _ rfl hw dX3_tellHalves_85
    · rw [if_neg c51] at h53
      refine lv_iconst (v := 1) hx hb dX3_tellHalves_80 (by decide) ?_
      refine lv_goto (tgt := 85) hx hb dX3_tellHalves_81 (by decide) ?_
      obtain ⟨rfl, rfl, rfl, rfl⟩ := inj4 h53
      exact hret _ _ _ _ rfl hw dX3_tellHalves_85
  clear h53
  have loop35 : ∀ (n : Nat) (v28 : Int32) (v29 : Int32) (v30 : Int32) (g31 : Nat → Int32) (g32 : Nat → Int32) (H : Heap) (locs : List Loc) (ls : Array Slot), Wd d A s.heap (List.flatten [wA cy a0 a1 a_letters a_length v30, wG cy g0 g1 g2 g3 g31 g32 g_chalk g_wet g_harvest g_draw]) H locs → lv_has ls 7 [(0, .ref a0), (1, .ref g0), (2, .int i2), (3, .int i3), (4, .int v28), (5, .int v29)] → fX3_tellHalves_L6 a_length a_letters i2 i3 n v28 v29 v30 g31 g32 = some (o36, q37, q38, o39) → W p l e (rmo 1 24) s m args below meth c H locs 0 0 Q (F0 m 6 ls []) := by
    intro n
    induction n with
    | zero =>
      intro v28 v29 v30 g31 g32 H locs ls hw hl h54
      rw [fX3_tellHalves_L6] at h54
      cases h54
    | succ n ih34 =>
      intro v28 v29 v30 g31 g32 H locs ls hw hl h55
      rw [fX3_tellHalves_L6] at h55
      refine lv_iload hx hb dX3_tellHalves_6 (lv_at hl 5 rfl) ?_
      refine lv_bipush (v := 12) hx hb dX3_tellHalves_8 (by decide) ?_
      refine lv_icmp_ge (tgt := 75) hx hb dX3_tellHalves_10 (by decide) (fun c40 => ?_) (fun c40 => ?_)
      · rw [if_pos c40] at h55
        obtain ⟨rfl, rfl, rfl, rfl⟩ := inj4 h55
        exact kont33 _ _ _ hw (lv_sub hl [4] rfl)
      · rw [if_neg c40] at h55
        refine lv_aload_n hx hb dX3_tellHalves_13 rfl (lv_at hl 0 rfl) ?_
        obtain ⟨r41, x42, k43, h56⟩ := ob2 h55
        clear h55
        refine g_vi F (cX3_next_ok l d cy a0 a1 a_letters a_length v30 r41 x42 k43) cal_X3_next t_330 rfl ⟨by decide, by decide⟩ hw (w' := List.flatten [wA cy a0 a1 a_letters a_length x42, wG cy g0 g1 g2 g3 g31 g32 g_chalk g_wet g_harvest g_draw]) (SCut.cut (SCut.one (SCut.take SCut.rf (SCut.skip SCut.none)))) 0 3 rfl rfl hl.1 (Nat.le_of_ble_eq_true rfl) rfl dX3_tellHalves_14 (fun H locs hw => ?_)
        refine lv_bipush (v := 97) hx hb dX3_tellHalves_17 (by decide) ?_
        refine lv_isub hx hb dX3_tellHalves_19 ?_
        refine lv_istore (lv' := [(6, .int (r41 - 97)), (0, .ref a0), (1, .ref g0), (2, .int i2), (3, .int i3), (4, .int v28), (5, .int v29)]) hx hb dX3_tellHalves_20 hl (by decide) rfl (fun ls hl => ?_)
        refine lv_iload hx hb dX3_tellHalves_22 (lv_at hl 0 rfl) ?_
        refine lv_iload hx hb dX3_tellHalves_24 (lv_at hl 5 rfl) ?_
        refine lv_icmp_le (tgt := 75) hx hb dX3_tellHalves_26 (by decide) (fun c44 => ?_) (fun c44 => ?_)
        · rw [if_pos c44] at h56
          obtain ⟨rfl, rfl, rfl, rfl⟩ := inj4 h56
          exact kont33 _ _ _ hw (lv_sub hl [5] rfl)
        · rw [if_neg c44] at h56
          refine lv_iload hx hb dX3_tellHalves_29 (lv_at hl 0 rfl) ?_
          refine lv_bipush (v := 12) hx hb dX3_tellHalves_31 (by decide) ?_
          refine lv_icmp_lt (tgt := 39) hx hb dX3_tellHalves_33 (by decide) (fun c45 => ?_) (fun c45 => ?_)
          · rw [if_pos c45] at h56
            refine lv_aload_n hx hb dX3_tellHalves_39 rfl (lv_at hl 1 rfl) ?_
            refine lv_dup hx hb dX3_tellHalves_40 rfl ?_
            refine g_get F inG3 hw 0 rfl rfl 2 (by decide) t_154 (fun _ h9 => h9) rfl dX3_tellHalves_41 ?_
            refine lv_iconst (v := 1) hx hb dX3_tellHalves_44 (by decide) ?_
            refine lv_iadd hx hb dX3_tellHalves_45 ?_
            refine g_put F inG3 tyX3 tyX3_ok nmX3 hw 0 rfl rfl 2 (by decide) t_154 (fun _ h9 => h9) rfl (ty := .int) (by decide +kernel) rfl rfl (Nat.le_of_ble_eq_true rfl) dX3_tellHalves_46 (w' := List.flatten [wA cy a0 a1 a_letters a_length (x42 + 1), wG cy g0 g1 g2 g3 g31 g32 g_chalk g_wet g_harvest g_draw]) rfl (fun H locs hw => ?_)
            refine lv_iload hx hb dX3_tellHalves_49 (lv_at hl 0 rfl) ?_
            refine lv_istore (lv' := [(4, .int (r41 - 97)), (6, .int (r41 - 97)), (0, .ref a0), (1, .ref g0), (2, .int i2), (3, .int i3), (5, .int v29)]) hx hb dX3_tellHalves_51 hl (by decide) rfl (fun ls hl => ?_)
            refine lv_aload_n hx hb dX3_tellHalves_53 rfl (lv_at hl 3 rfl) ?_
            refine lv_iload_n hx hb dX3_tellHalves_54 rfl (lv_at hl 4 rfl) ?_
            refine lv_iload hx hb dX3_tellHalves_55 (lv_at hl 1 rfl) ?_
            refine lv_aload_n hx hb dX3_tellHalves_57 rfl (lv_at hl 3 rfl) ?_
            refine lv_iload_n hx hb dX3_tellHalves_58 rfl (lv_at hl 4 rfl) ?_
            refine lv_iload hx hb dX3_tellHalves_59 (lv_at hl 1 rfl) ?_
            obtain ⟨r46, k47, h57⟩ := ob1 h56
            clear h56
            refine g_vi F (cX0_manyOf_ok l d cy g0 g1 g2 g3 g31 g32 g_chalk g_wet g_harvest g_draw i2 (r41 - 97) r46 k47) cal_X0_manyOf t_444 rfl ⟨by decide, by decide⟩ hw (w' := List.flatten [wA cy a0 a1 a_letters a_length (x42 + 1), wG cy g0 g1 g2 g3 g31 g32 g_chalk g_wet g_harvest g_draw]) (SCut.cut (SCut.one (SCut.skip (SCut.take SCut.rf SCut.none)))) 0 0 rfl rfl hl.1 (Nat.le_of_ble_eq_true rfl) rfl dX3_tellHalves_61 (fun H locs hw => ?_)
            refine lv_iload_n hx hb dX3_tellHalves_64 rfl (lv_at hl 5 rfl) ?_
            refine lv_iadd hx hb dX3_tellHalves_65 ?_
            obtain ⟨f48, f49, k50, h58⟩ := ob2 h57
            clear h57
            refine g_vv F (cX0_setMany_ok l d cy g0 g1 g2 g3 g31 g32 g_chalk g_wet g_harvest g_draw i2 (r41 - 97) (r46 + i3) f48 f49 k50) cal_X0_setMany t_445 rfl ⟨by decide, by decide⟩ hw (w' := List.flatten [wA cy a0 a1 a_letters a_length (x42 + 1), wG cy g0 g1 g2 g3 f48 f49 g_chalk g_wet g_harvest g_draw]) (SCut.cut (SCut.one (SCut.skip (SCut.take SCut.rf SCut.none)))) 0 0 rfl rfl hl.1 (Nat.le_of_ble_eq_true rfl) rfl dX3_tellHalves_66 (fun H locs hw => ?_)
            refine lv_iinc (v := (v29 + 1)) (lv' := [(5, .int (v29 + 1)), (4, .int (r41 - 97)), (6, .int (r41 - 97)), (0, .ref a0), (1, .ref g0), (2, .int i2), (3, .int i3)]) hx hb dX3_tellHalves_69 hl (k := 6) rfl rfl (by decide) rfl (fun ls hl => ?_)
            refine lv_goto (tgt := 6) hx hb dX3_tellHalves_72 (by decide) ?_
            exact ih34 (r41 - 97) (v29 + 1) (x42 + 1) f48 f49 _ _ _ hw (lv_sub hl [3, 4, 5, 6, 1, 0] rfl) h58
          · rw [if_neg c45] at h56
            refine lv_goto (tgt := 75) hx hb dX3_tellHalves_36 (by decide) ?_
            obtain ⟨rfl, rfl, rfl, rfl⟩ := inj4 h56
            exact kont33 _ _ _ hw (lv_sub hl [5] rfl)
  exact loop35 fl (-1) 0 a_place g_many g_sets _ _ _ hw (lv_sub hl [2, 3, 4, 5, 1, 0] rfl) h52
theorem cal_X3_tellOne : CalV yX3_tellOne cX3_tellOne 6 (some .boolean) RX3 1 := ⟨t_431, t_429, t_430, t_41, by decide +kernel⟩
set_option maxHeartbeats 4000000 in
set_option maxRecDepth 100000 in
theorem cX3_tellOne_ok (l : Launch) (d : va_G) (cy : Nat → ClassId) (a0 a1 t0 t1 t2 g0 g1 g2 g3 : Nat) (a_letters : Nat → Int32) (a_length : Int32) (a_place : Int32) (t_people : Int32) (t_fewest : Int32) (t_kinds : Nat → Int32) (t_loves : Nat → Int32) (g_many : Nat → Int32) (g_sets : Nat → Int32) (g_chalk : Nat → Int32) (g_wet : Int32) (g_harvest : Int32) (g_draw : Int32) (r : Int32) (a_place_r : Int32) (t_people_r : Int32) (t_kinds_r : Nat → Int32) (t_loves_r : Nat → Int32) (g_many_r : Nat → Int32) (g_sets_r : Nat → Int32) (g_chalk_r : Nat → Int32) (h0 : fX3_tellOne a_letters a_length a_place t_people t_kinds t_loves g_many g_sets g_chalk = some (r, a_place_r, t_people_r, t_kinds_r, t_loves_r, g_many_r, g_sets_r, g_chalk_r)) : CI l yX3_tellOne cX3_tellOne 6 (some .boolean) 6 135 d cy [.ref a0, .ref t0] (List.flatten [wA cy a0 a1 a_letters a_length a_place, wT cy t0 t1 t2 g0 t_people t_fewest t_kinds t_loves, wG cy g0 g1 g2 g3 g_many g_sets g_chalk g_wet g_harvest g_draw]) (List.flatten [wA cy a0 a1 a_letters a_length a_place_r, wT cy t0 t1 t2 g0 t_people_r t_fewest t_kinds_r t_loves_r, wG cy g0 g1 g2 g3 g_many_r g_sets_r g_chalk_r g_wet g_harvest g_draw]) r := by
  refine CZ.of (by decide) (Nat.le_of_ble_eq_true rfl) ?_
  intro p e s m args below meth c A ls Q F hret hw hl
  have hx := F.1
  have hb := F.2.1
  have hl : lv_has ls 6 [(0, .ref a0), (1, .ref t0)] := hl
  rw [fX3_tellOne] at h0
  refine lv_aload_n hx hb dX3_tellOne_0 rfl (lv_at hl 0 rfl) ?_
  refine g_ldcS F 1 rfl dX3_tellOne_1 ?_
  obtain ⟨r1, x2, k3, h88⟩ := ob2 h0
  clear h0
  refine g_vi F (cX3_takeOneOf_ok l d cy a0 a1 a_letters a_length a_place 1 (by decide) r1 x2 k3) cal_X3_takeOneOf t_326 rfl ⟨by decide, by decide⟩ hw (w' := List.flatten [wA cy a0 a1 a_letters a_length x2, wT cy t0 t1 t2 g0 t_people t_fewest t_kinds t_loves, wG cy g0 g1 g2 g3 g_many g_sets g_chalk g_wet g_harvest g_draw]) (SCut.cut (SCut.one (SCut.take SCut.rf (SCut.skip (SCut.skip SCut.none))))) 0 3 rfl rfl hl.1 (Nat.le_of_ble_eq_true rfl) rfl dX3_tellOne_3 (fun H locs hw => ?_)
  refine lv_istore_n (lv' := [(2, .int r1), (0, .ref a0), (1, .ref t0)]) hx hb dX3_tellOne_6 rfl hl (by decide) rfl (fun ls hl => ?_)
  refine lv_iload_n hx hb dX3_tellOne_7 rfl (lv_at hl 0 rfl) ?_
  refine lv_if_ge (tgt := 13) hx hb dX3_tellOne_8 (by decide) (fun c4 => ?_) (fun c4 => ?_)
  · rw [if_pos c4] at h88
    refine lv_aload_n hx hb dX3_tellOne_13 rfl (lv_at hl 1 rfl) ?_
    obtain ⟨r5, x6, k7, h89⟩ := ob2 h88
    clear h88
    refine g_vi F (cX3_takeNumber_ok l d cy a0 a1 a_letters a_length x2 r5 x6 k7) cal_X3_takeNumber t_433 rfl ⟨by decide, by decide⟩ hw (w' := List.flatten [wA cy a0 a1 a_letters a_length x6, wT cy t0 t1 t2 g0 t_people t_fewest t_kinds t_loves, wG cy g0 g1 g2 g3 g_many g_sets g_chalk g_wet g_harvest g_draw]) (SCut.cut (SCut.one (SCut.take SCut.rf (SCut.skip (SCut.skip SCut.none))))) 0 3 rfl rfl hl.1 (Nat.le_of_ble_eq_true rfl) rfl dX3_tellOne_14 (fun H locs hw => ?_)
    refine lv_istore_n (lv' := [(3, .int r5), (2, .int r1), (0, .ref a0), (1, .ref t0)]) hx hb dX3_tellOne_17 rfl hl (by decide) rfl (fun ls hl => ?_)
    refine lv_iload_n hx hb dX3_tellOne_18 rfl (lv_at hl 0 rfl) ?_
    refine lv_if_ge (tgt := 24) hx hb dX3_tellOne_19 (by decide) (fun c8 => ?_) (fun c8 => ?_)
    · rw [if_pos c8] at h89
      refine lv_aload_n hx hb dX3_tellOne_24 rfl (lv_at hl 3 rfl) ?_
      refine lv_iload_n hx hb dX3_tellOne_25 rfl (lv_at hl 1 rfl) ?_
      refine lv_iload_n hx hb dX3_tellOne_26 rfl (lv_at hl 0 rfl) ?_
      obtain ⟨r9, x10, f11, f12, f13, f14, f15, k16, h90⟩ := ob7 h89
      clear h89
      refine g_vi F (cX4_settle_ok l d cy t0 t1 t2 g0 g1 g2 g3 t_people t_fewest t_kinds t_loves g_many g_sets g_chalk g_wet g_harvest g_draw r1 r5 r9 x10 f11 f12 f13 f14 f15 k16) cal_X4_settle t_438 rfl ⟨by decide, by decide⟩ hw (w' := List.flatten [wA cy a0 a1 a_letters a_length x6, wT cy t0 t1 t2 g0 x10 t_fewest f11 f12, wG cy g0 g1 g2 g3 f13 f14 f15 g_wet g_harvest g_draw]) (SCut.cut (SCut.skip (SCut.take SCut.rf (SCut.take SCut.rf SCut.none)))) 0 4 rfl rfl hl.1 (Nat.le_of_ble_eq_true rfl) rfl dX3_tellOne_27 (fun H locs hw => ?_)
      refine lv_istore (lv' := [(4, .int r9), (3, .int r5), (2, .int r1), (0, .ref a0), (1, .ref t0)]) hx hb dX3_tellOne_30 hl (by decide) rfl (fun ls hl => ?_)
      refine lv_iload hx hb dX3_tellOne_32 (lv_at hl 0 rfl) ?_
      refine lv_if_ge (tgt := 39) hx hb dX3_tellOne_34 (by decide) (fun c17 => ?_) (fun c17 => ?_)
      · rw [if_pos c17] at h90
        refine lv_aload_n hx hb dX3_tellOne_39 rfl (lv_at hl 3 rfl) ?_
        refine lv_bipush (v := 62) hx hb dX3_tellOne_40 (by decide) ?_
        obtain ⟨r18, x19, k20, h91⟩ := ob2 h90
        clear h90
        refine g_vi F (cX3_takes_ok l d cy a0 a1 a_letters a_length x6 62 r18 x19 k20) cal_X3_takes t_420 rfl ⟨by decide, by decide⟩ hw (w' := List.flatten [wA cy a0 a1 a_letters a_length x19, wT cy t0 t1 t2 g0 x10 t_fewest f11 f12, wG cy g0 g1 g2 g3 f13 f14 f15 g_wet g_harvest g_draw]) (SCut.cut (SCut.one (SCut.take SCut.rf (SCut.skip (SCut.skip SCut.none))))) 0 3 rfl rfl hl.1 (Nat.le_of_ble_eq_true rfl) rfl dX3_tellOne_42 (fun H locs hw => ?_)
        refine lv_if_eq (tgt := 72) hx hb dX3_tellOne_45 (by decide) (fun c21 => ?_) (fun c21 => ?_)
        · rw [if_pos c21] at h91
          refine lv_aload_n hx hb dX3_tellOne_72 rfl (lv_at hl 3 rfl) ?_
          refine lv_bipush (v := 45) hx hb dX3_tellOne_73 (by decide) ?_
          obtain ⟨r22, x23, k24, h92⟩ := ob2 h91
          clear h91
          refine g_vi F (cX3_takes_ok l d cy a0 a1 a_letters a_length x19 45 r22 x23 k24) cal_X3_takes t_420 rfl ⟨by decide, by decide⟩ hw (w' := List.flatten [wA cy a0 a1 a_letters a_length x23, wT cy t0 t1 t2 g0 x10 t_fewest f11 f12, wG cy g0 g1 g2 g3 f13 f14 f15 g_wet g_harvest g_draw]) (SCut.cut (SCut.one (SCut.take SCut.rf (SCut.skip (SCut.skip SCut.none))))) 0 3 rfl rfl hl.1 (Nat.le_of_ble_eq_true rfl) rfl dX3_tellOne_75 (fun H locs hw => ?_)
          refine lv_if_eq (tgt := 95) hx hb dX3_tellOne_78 (by decide) (fun c25 => ?_) (fun c25 => ?_)
          · rw [if_pos c25] at h92
            refine lv_aload_n hx hb dX3_tellOne_95 rfl (lv_at hl 3 rfl) ?_
            refine lv_bipush (v := 43) hx hb dX3_tellOne_96 (by decide) ?_
            obtain ⟨r26, x27, k28, h93⟩ := ob2 h92
            clear h92
            refine g_vi F (cX3_takes_ok l d cy a0 a1 a_letters a_length x23 43 r26 x27 k28) cal_X3_takes t_420 rfl ⟨by decide, by decide⟩ hw (w' := List.flatten [wA cy a0 a1 a_letters a_length x27, wT cy t0 t1 t2 g0 x10 t_fewest f11 f12, wG cy g0 g1 g2 g3 f13 f14 f15 g_wet g_harvest g_draw]) (SCut.cut (SCut.one (SCut.take SCut.rf (SCut.skip (SCut.skip SCut.none))))) 0 3 rfl rfl hl.1 (Nat.le_of_ble_eq_true rfl) rfl dX3_tellOne_98 (fun H locs hw => ?_)
            refine lv_if_eq (tgt := 118) hx hb dX3_tellOne_101 (by decide) (fun c29 => ?_) (fun c29 => ?_)
            · rw [if_pos c29] at h93
              refine lv_iconst (v := 1) hx hb dX3_tellOne_118 (by decide) ?_
              refine lv_goto (tgt := 123) hx hb dX3_tellOne_119 (by decide) ?_
              obtain ⟨rfl, rfl, rfl, rfl, rfl, rfl, rfl, rfl⟩ := inj8 h93
              exact hret _ _ _ _ rfl hw dX3_tellOne_123
            · rw [if_neg c29] at h93
              refine lv_aload_n hx hb dX3_tellOne_104 rfl (lv_at hl 3 rfl) ?_
              refine lv_aload_n hx hb dX3_tellOne_105 rfl (lv_at hl 4 rfl) ?_
              refine g_get F inG4 hw 2 rfl rfl 4 (by decide) t_115 (fun _ h9 => h9) rfl dX3_tellOne_106 ?_
              refine lv_iload hx hb dX3_tellOne_109 (lv_at hl 0 rfl) ?_
              refine lv_iconst (v := 1) hx hb dX3_tellOne_111 (by decide) ?_
              obtain ⟨r30, x31, f32, f33, k34, h94⟩ := ob4 h93
              clear h93
              refine g_vi F (cX3_tellHalves_ok l d cy a0 a1 g0 g1 g2 g3 a_letters a_length x27 f13 f14 f15 g_wet g_harvest g_draw r9 1 r30 x31 f32 f33 k34) cal_X3_tellHalves t_440 rfl ⟨by decide, by decide⟩ hw (w' := List.flatten [wA cy a0 a1 a_letters a_length x31, wT cy t0 t1 t2 g0 x10 t_fewest f11 f12, wG cy g0 g1 g2 g3 f32 f33 f15 g_wet g_harvest g_draw]) (SCut.cut (SCut.take SCut.rf (SCut.skip (SCut.take SCut.rf SCut.none)))) 0 3 rfl rfl hl.1 (Nat.le_of_ble_eq_true rfl) rfl dX3_tellOne_112 (fun H locs hw => ?_)
              refine lv_if_eq (tgt := 122) hx hb dX3_tellOne_115 (by decide) (fun c35 => ?_) (fun c35 => ?_)
              · rw [if_pos c35] at h94
                refine lv_iconst (v := 0) hx hb dX3_tellOne_122 (by decide) ?_
                obtain ⟨rfl, rfl, rfl, rfl, rfl, rfl, rfl, rfl⟩ := inj8 h94
                exact hret _ _ _ _ rfl hw dX3_tellOne_123
              · rw [if_neg c35] at h94
                refine lv_iconst (v := 1) hx hb dX3_tellOne_118 (by decide) ?_
                refine lv_goto (tgt := 123) hx hb dX3_tellOne_119 (by decide) ?_
                obtain ⟨rfl, rfl, rfl, rfl, rfl, rfl, rfl, rfl⟩ := inj8 h94
                exact hret _ _ _ _ rfl hw dX3_tellOne_123
          · rw [if_neg c25] at h92
            refine lv_aload_n hx hb dX3_tellOne_81 rfl (lv_at hl 3 rfl) ?_
            refine lv_aload_n hx hb dX3_tellOne_82 rfl (lv_at hl 4 rfl) ?_
            refine g_get F inG4 hw 2 rfl rfl 4 (by decide) t_115 (fun _ h9 => h9) rfl dX3_tellOne_83 ?_
            refine lv_iload hx hb dX3_tellOne_86 (lv_at hl 0 rfl) ?_
            refine lv_iconst (v := (-1)) hx hb dX3_tellOne_88 (by decide) ?_
            obtain ⟨r36, x37, f38, f39, k40, h95⟩ := ob4 h92
            clear h92
            refine g_vi F (cX3_tellHalves_ok l d cy a0 a1 g0 g1 g2 g3 a_letters a_length x23 f13 f14 f15 g_wet g_harvest g_draw r9 (-1) r36 x37 f38 f39 k40) cal_X3_tellHalves t_440 rfl ⟨by decide, by decide⟩ hw (w' := List.flatten [wA cy a0 a1 a_letters a_length x37, wT cy t0 t1 t2 g0 x10 t_fewest f11 f12, wG cy g0 g1 g2 g3 f38 f39 f15 g_wet g_harvest g_draw]) (SCut.cut (SCut.take SCut.rf (SCut.skip (SCut.take SCut.rf SCut.none)))) 0 3 rfl rfl hl.1 (Nat.le_of_ble_eq_true rfl) rfl dX3_tellOne_89 (fun H locs hw => ?_)
            refine lv_if_eq (tgt := 122) hx hb dX3_tellOne_92 (by decide) (fun c41 => ?_) (fun c41 => ?_)
            · rw [if_pos c41] at h95
              refine lv_iconst (v := 0) hx hb dX3_tellOne_122 (by decide) ?_
              obtain ⟨rfl, rfl, rfl, rfl, rfl, rfl, rfl, rfl⟩ := inj8 h95
              exact hret _ _ _ _ rfl hw dX3_tellOne_123
            · rw [if_neg c41] at h95
              refine lv_aload_n hx hb dX3_tellOne_95 rfl (lv_at hl 3 rfl) ?_
              refine lv_bipush (v := 43) hx hb dX3_tellOne_96 (by decide) ?_
              obtain ⟨r42, x43, k44, h96⟩ := ob2 h95
              clear h95
              refine g_vi F (cX3_takes_ok l d cy a0 a1 a_letters a_length x37 43 r42 x43 k44) cal_X3_takes t_420 rfl ⟨by decide, by decide⟩ hw (w' := List.flatten [wA cy a0 a1 a_letters a_length x43, wT cy t0 t1 t2 g0 x10 t_fewest f11 f12, wG cy g0 g1 g2 g3 f38 f39 f15 g_wet g_harvest g_draw]) (SCut.cut (SCut.one (SCut.take SCut.rf (SCut.skip (SCut.skip SCut.none))))) 0 3 rfl rfl hl.1 (Nat.le_of_ble_eq_true rfl) rfl dX3_tellOne_98 (fun H locs hw => ?_)
              refine lv_if_eq (tgt := 118) hx hb dX3_tellOne_101 (by decide) (fun c45 => ?_) (fun c45 => ?_)
              · rw [if_pos c45] at h96
                refine lv_iconst (v := 1) hx hb dX3_tellOne_118 (by decide) ?_
                refine lv_goto (tgt := 123) hx hb dX3_tellOne_119 (by decide) ?_
                obtain ⟨rfl, rfl, rfl, rfl, rfl, rfl, rfl, rfl⟩ := inj8 h96
                exact hret _ _ _ _ rfl hw dX3_tellOne_123
              · rw [if_neg c45] at h96
                refine lv_aload_n hx hb dX3_tellOne_104 rfl (lv_at hl 3 rfl) ?_
                refine lv_aload_n hx hb dX3_tellOne_105 rfl (lv_at hl 4 rfl) ?_
                refine g_get F inG4 hw 2 rfl rfl 4 (by decide) t_115 (fun _ h9 => h9) rfl dX3_tellOne_106 ?_
                refine lv_iload hx hb dX3_tellOne_109 (lv_at hl 0 rfl) ?_
                refine lv_iconst (v := 1) hx hb dX3_tellOne_111 (by decide) ?_
                obtain ⟨r46, x47, f48, f49, k50, h97⟩ := ob4 h96
                clear h96
                refine g_vi F (cX3_tellHalves_ok l d cy a0 a1 g0 g1 g2 g3 a_letters a_length x43 f38 f39 f15 g_wet g_harvest g_draw r9 1 r46 x47 f48 f49 k50) cal_X3_tellHalves t_440 rfl ⟨by decide, by decide⟩ hw (w' := List.flatten [wA cy a0 a1 a_letters a_length x47, wT cy t0 t1 t2 g0 x10 t_fewest f11 f12, wG cy g0 g1 g2 g3 f48 f49 f15 g_wet g_harvest g_draw]) (SCut.cut (SCut.take SCut.rf (SCut.skip (SCut.take SCut.rf SCut.none)))) 0 3 rfl rfl hl.1 (Nat.le_of_ble_eq_true rfl) rfl dX3_tellOne_112 (fun H locs hw => ?_)
                refine lv_if_eq (tgt := 122) hx hb dX3_tellOne_115 (by decide) (fun c51 => ?_) (fun c51 => ?_)
                · rw [if_pos c51] at h97
                  refine lv_iconst (v := 0) hx hb dX3_tellOne_122 (by decide) ?_
                  obtain ⟨rfl, rfl, rfl, rfl, rfl, rfl, rfl, rfl⟩ := inj8 h97
                  exact hret _ _ _ _ rfl hw dX3_tellOne_123
                · rw [if_neg c51] at h97
                  refine lv_iconst (v := 1) hx hb dX3_tellOne_118 (by decide) ?_
                  refine lv_goto (tgt := 123) hx hb dX3_tellOne_119 (by decide) ?_
                  obtain ⟨rfl, rfl, rfl, rfl, rfl, rfl, rfl, rfl⟩ := inj8 h97
                  exact hret _ _ _ _ rfl hw dX3_tellOne_123
        · rw [if_neg c21] at h91
          refine lv_aload_n hx hb dX3_tellOne_48 rfl (lv_at hl 3 rfl) ?_
          refine g_ldcS F 3 rfl dX3_tellOne_49 ?_
          obtain ⟨r52, x53, k54, h98⟩ := ob2 h91
          clear h91
          refine g_vi F (cX3_takeOneOf_ok l d cy a0 a1 a_letters a_length x19 3 (by decide) r52 x53 k54) cal_X3_takeOneOf t_326 rfl ⟨by decide, by decide⟩ hw (w' := List.flatten [wA cy a0 a1 a_letters a_length x53, wT cy t0 t1 t2 g0 x10 t_fewest f11 f12, wG cy g0 g1 g2 g3 f13 f14 f15 g_wet g_harvest g_draw]) (SCut.cut (SCut.one (SCut.take SCut.rf (SCut.skip (SCut.skip SCut.none))))) 0 3 rfl rfl hl.1 (Nat.le_of_ble_eq_true rfl) rfl dX3_tellOne_51 (fun H locs hw => ?_)
          refine lv_istore (lv' := [(5, .int r52), (4, .int r9), (3, .int r5), (2, .int r1), (0, .ref a0), (1, .ref t0)]) hx hb dX3_tellOne_54 hl (by decide) rfl (fun ls hl => ?_)
          refine lv_iload hx hb dX3_tellOne_56 (lv_at hl 0 rfl) ?_
          refine lv_if_ge (tgt := 63) hx hb dX3_tellOne_58 (by decide) (fun c55 => ?_) (fun c55 => ?_)
          · rw [if_pos c55] at h98
            refine lv_aload_n hx hb dX3_tellOne_63 rfl (lv_at hl 5 rfl) ?_
            refine g_get F inG4 hw 2 rfl rfl 3 (by decide) t_113 (fun _ h9 => h9) rfl dX3_tellOne_64 ?_
            refine lv_iload hx hb dX3_tellOne_67 (lv_at hl 1 rfl) ?_
            refine lv_iload hx hb dX3_tellOne_69 (lv_at hl 0 rfl) ?_
            obtain ⟨j56, k57, h99⟩ := ob1 h98
            clear h98
            refine g_iast F hw 4 rfl k57 dX3_tellOne_71 (w' := List.flatten [wA cy a0 a1 a_letters a_length x53, wT cy t0 t1 t2 g0 x10 t_fewest f11 (upd f12 j56 r52), wG cy g0 g1 g2 g3 f13 f14 f15 g_wet g_harvest g_draw]) rfl (fun H locs hw => ?_)
            refine lv_aload_n hx hb dX3_tellOne_72 rfl (lv_at hl 4 rfl) ?_
            refine lv_bipush (v := 45) hx hb dX3_tellOne_73 (by decide) ?_
            obtain ⟨r58, x59, k60, h100⟩ := ob2 h99
            clear h99
            refine g_vi F (cX3_takes_ok l d cy a0 a1 a_letters a_length x53 45 r58 x59 k60) cal_X3_takes t_420 rfl ⟨by decide, by decide⟩ hw (w' := List.flatten [wA cy a0 a1 a_letters a_length x59, wT cy t0 t1 t2 g0 x10 t_fewest f11 (upd f12 j56 r52), wG cy g0 g1 g2 g3 f13 f14 f15 g_wet g_harvest g_draw]) (SCut.cut (SCut.one (SCut.take SCut.rf (SCut.skip (SCut.skip SCut.none))))) 0 3 rfl rfl hl.1 (Nat.le_of_ble_eq_true rfl) rfl dX3_tellOne_75 (fun H locs hw => ?_)
            refine lv_if_eq (tgt := 95) hx hb dX3_tellOne_78 (by decide) (fun c61 => ?_) (fun c61 => ?_)
            · rw [if_pos c61] at h100
              refine lv_aload_n hx hb dX3_tellOne_95 rfl (lv_at hl 4 rfl) ?_
              refine lv_bipush (v := 43) hx hb dX3_tellOne_96 (by decide) ?_
              obtain ⟨r62, x63, k64, h101⟩ := ob2 h100
              clear h100
              refine g_vi F (cX3_takes_ok l d cy a0 a1 a_letters a_length x59 43 r62 x63 k64) cal_X3_takes t_420 rfl ⟨by decide, by decide⟩ hw (w' := List.flatten [wA cy a0 a1 a_letters a_length x63, wT cy t0 t1 t2 g0 x10 t_fewest f11 (upd f12 j56 r52), wG cy g0 g1 g2 g3 f13 f14 f15 g_wet g_harvest g_draw]) (SCut.cut (SCut.one (SCut.take SCut.rf (SCut.skip (SCut.skip SCut.none))))) 0 3 rfl rfl hl.1 (Nat.le_of_ble_eq_true rfl) rfl dX3_tellOne_98 (fun H locs hw => ?_)
              refine lv_if_eq (tgt := 118) hx hb dX3_tellOne_101 (by decide) (fun c65 => ?_) (fun c65 => ?_)
              · rw [if_pos c65] at h101
                refine lv_iconst (v := 1) hx hb dX3_tellOne_118 (by decide) ?_
                refine lv_goto (tgt := 123) hx hb dX3_tellOne_119 (by decide) ?_
                obtain ⟨rfl, rfl, rfl, rfl, rfl, rfl, rfl, rfl⟩ := inj8 h101
                exact hret _ _ _ _ rfl hw dX3_tellOne_123
              · rw [if_neg c65] at h101
                refine lv_aload_n hx hb dX3_tellOne_104 rfl (lv_at hl 4 rfl) ?_
                refine lv_aload_n hx hb dX3_tellOne_105 rfl (lv_at hl 5 rfl) ?_
                refine g_get F inG4 hw 2 rfl rfl 4 (by decide) t_115 (fun _ h9 => h9) rfl dX3_tellOne_106 ?_
                refine lv_iload hx hb dX3_tellOne_109 (lv_at hl 1 rfl) ?_
                refine lv_iconst (v := 1) hx hb dX3_tellOne_111 (by decide) ?_
                obtain ⟨r66, x67, f68, f69, k70, h102⟩ := ob4 h101
                clear h101
                refine g_vi F (cX3_tellHalves_ok l d cy a0 a1 g0 g1 g2 g3 a_letters a_length x63 f13 f14 f15 g_wet g_harvest g_draw r9 1 r66 x67 f68 f69 k70) cal_X3_tellHalves t_440 rfl ⟨by decide, by decide⟩ hw (w' := List.flatten [wA cy a0 a1 a_letters a_length x67, wT cy t0 t1 t2 g0 x10 t_fewest f11 (upd f12 j56 r52), wG cy g0 g1 g2 g3 f68 f69 f15 g_wet g_harvest g_draw]) (SCut.cut (SCut.take SCut.rf (SCut.skip (SCut.take SCut.rf SCut.none)))) 0 3 rfl rfl hl.1 (Nat.le_of_ble_eq_true rfl) rfl dX3_tellOne_112 (fun H locs hw => ?_)
                refine lv_if_eq (tgt := 122) hx hb dX3_tellOne_115 (by decide) (fun c71 => ?_) (fun c71 => ?_)
                · rw [if_pos c71] at h102
                  refine lv_iconst (v := 0) hx hb dX3_tellOne_122 (by decide) ?_
                  obtain ⟨rfl, rfl, rfl, rfl, rfl, rfl, rfl, rfl⟩ := inj8 h102
                  exact hret _ _ _ _ rfl hw dX3_tellOne_123
                · rw [if_neg c71] at h102
                  refine lv_iconst (v := 1) hx hb dX3_tellOne_118 (by decide) ?_
                  refine lv_goto (tgt := 123) hx hb dX3_tellOne_119 (by decide) ?_
                  obtain ⟨rfl, rfl, rfl, rfl, rfl, rfl, rfl, rfl⟩ := inj8 h102
                  exact hret _ _ _ _ rfl hw dX3_tellOne_123
            · rw [if_neg c61] at h100
              refine lv_aload_n hx hb dX3_tellOne_81 rfl (lv_at hl 4 rfl) ?_
              refine lv_aload_n hx hb dX3_tellOne_82 rfl (lv_at hl 5 rfl) ?_
              refine g_get F inG4 hw 2 rfl rfl 4 (by decide) t_115 (fun _ h9 => h9) rfl dX3_tellOne_83 ?_
              refine lv_iload hx hb dX3_tellOne_86 (lv_at hl 1 rfl) ?_
              refine lv_iconst (v := (-1)) hx hb dX3_tellOne_88 (by decide) ?_
              obtain ⟨r72, x73, f74, f75, k76, h103⟩ := ob4 h100
              clear h100
              refine g_vi F (cX3_tellHalves_ok l d cy a0 a1 g0 g1 g2 g3 a_letters a_length x59 f13 f14 f15 g_wet g_harvest g_draw r9 (-1) r72 x73 f74 f75 k76) cal_X3_tellHalves t_440 rfl ⟨by decide, by decide⟩ hw (w' := List.flatten [wA cy a0 a1 a_letters a_length x73, wT cy t0 t1 t2 g0 x10 t_fewest f11 (upd f12 j56 r52), wG cy g0 g1 g2 g3 f74 f75 f15 g_wet g_harvest g_draw]) (SCut.cut (SCut.take SCut.rf (SCut.skip (SCut.take SCut.rf SCut.none)))) 0 3 rfl rfl hl.1 (Nat.le_of_ble_eq_true rfl) rfl dX3_tellOne_89 (fun H locs hw => ?_)
              refine lv_if_eq (tgt := 122) hx hb dX3_tellOne_92 (by decide) (fun c77 => ?_) (fun c77 => ?_)
              · rw [if_pos c77] at h103
                refine lv_iconst (v := 0) hx hb dX3_tellOne_122 (by decide) ?_
                obtain ⟨rfl, rfl, rfl, rfl, rfl, rfl, rfl, rfl⟩ := inj8 h103
                exact hret _ _ _ _ rfl hw dX3_tellOne_123
              · rw [if_neg c77] at h103
                refine lv_aload_n hx hb dX3_tellOne_95 rfl (lv_at hl 4 rfl) ?_
                refine lv_bipush (v := 43) hx hb dX3_tellOne_96 (by decide) ?_
                obtain ⟨r78, x79, k80, h104⟩ := ob2 h103
                clear h103
                refine g_vi F (cX3_takes_ok l d cy a0 a1 a_letters a_length x73 43 r78 x79 k80) cal_X3_takes t_420 rfl ⟨by decide, by decide⟩ hw (w' := List.flatten [wA cy a0 a1 a_letters a_length x79, wT cy t0 t1 t2 g0 x10 t_fewest f11 (upd f12 j56 r52), wG cy g0 g1 g2 g3 f74 f75 f15 g_wet g_harvest g_draw]) (SCut.cut (SCut.one (SCut.take SCut.rf (SCut.skip (SCut.skip SCut.none))))) 0 3 rfl rfl hl.1 (Nat.le_of_ble_eq_true rfl) rfl dX3_tellOne_98 (fun H locs hw => ?_)
                refine lv_if_eq (tgt := 118) hx hb dX3_tellOne_101 (by decide) (fun c81 => ?_) (fun c81 => ?_)
                · rw [if_pos c81] at h104
                  refine lv_iconst (v := 1) hx hb dX3_tellOne_118 (by decide) ?_
                  refine lv_goto (tgt := 123) hx hb dX3_tellOne_119 (by decide) ?_
                  obtain ⟨rfl, rfl, rfl, rfl, rfl, rfl, rfl, rfl⟩ := inj8 h104
                  exact hret _ _ _ _ rfl hw dX3_tellOne_123
                · rw [if_neg c81] at h104
                  refine lv_aload_n hx hb dX3_tellOne_104 rfl (lv_at hl 4 rfl) ?_
                  refine lv_aload_n hx hb dX3_tellOne_105 rfl (lv_at hl 5 rfl) ?_
                  refine g_get F inG4 hw 2 rfl rfl 4 (by decide) t_115 (fun _ h9 => h9) rfl dX3_tellOne_106 ?_
                  refine lv_iload hx hb dX3_tellOne_109 (lv_at hl 1 rfl) ?_
                  refine lv_iconst (v := 1) hx hb dX3_tellOne_111 (by decide) ?_
                  obtain ⟨r82, x83, f84, f85, k86, h105⟩ := ob4 h104
                  clear h104
                  refine g_vi F (cX3_tellHalves_ok l d cy a0 a1 g0 g1 g2 g3 a_letters a_length x79 f74 f75 f15 g_wet g_harvest g_draw r9 1 r82 x83 f84 f85 k86) cal_X3_tellHalves t_440 rfl ⟨by decide, by decide⟩ hw (w' := List.flatten [wA cy a0 a1 a_letters a_length x83, wT cy t0 t1 t2 g0 x10 t_fewest f11 (upd f12 j56 r52), wG cy g0 g1 g2 g3 f84 f85 f15 g_wet g_harvest g_draw]) (SCut.cut (SCut.take SCut.rf (SCut.skip (SCut.take SCut.rf SCut.none)))) 0 3 rfl rfl hl.1 (Nat.le_of_ble_eq_true rfl) rfl dX3_tellOne_112 (fun H locs hw => ?_)
                  refine lv_if_eq (tgt := 122) hx hb dX3_tellOne_115 (by decide) (fun c87 => ?_) (fun c87 => ?_)
                  · rw [if_pos c87] at h105
                    refine lv_iconst (v := 0) hx hb dX3_tellOne_122 (by decide) ?_
                    obtain ⟨rfl, rfl, rfl, rfl, rfl, rfl, rfl, rfl⟩ := inj8 h105
                    exact hret _ _ _ _ rfl hw dX3_tellOne_123
                  · rw [if_neg c87] at h105
                    refine lv_iconst (v := 1) hx hb dX3_tellOne_118 (by decide) ?_
                    refine lv_goto (tgt := 123) hx hb dX3_tellOne_119 (by decide) ?_
                    obtain ⟨rfl, rfl, rfl, rfl, rfl, rfl, rfl, rfl⟩ := inj8 h105
                    exact hret _ _ _ _ rfl hw dX3_tellOne_123
          · rw [if_neg c55] at h98
            refine lv_iconst (v := 0) hx hb dX3_tellOne_61 (by decide) ?_
            obtain ⟨rfl, rfl, rfl, rfl, rfl, rfl, rfl, rfl⟩ := inj8 h98
            exact hret _ _ _ _ rfl hw dX3_tellOne_62
      · rw [if_neg c17] at h90
        refine lv_iconst (v := 0) hx hb dX3_tellOne_37 (by decide) ?_
        obtain ⟨rfl, rfl, rfl, rfl, rfl, rfl, rfl, rfl⟩ := inj8 h90
        exact hret _ _ _ _ rfl hw dX3_tellOne_38
    · rw [if_neg c8] at h89
      refine lv_iconst (v := 0) hx hb dX3_tellOne_22 (by decide) ?_
      obtain ⟨rfl, rfl, rfl, rfl, rfl, rfl, rfl, rfl⟩ := inj8 h89
      exact hret _ _ _ _ rfl hw dX3_tellOne_23
  · rw [if_neg c4] at h88
    refine lv_iconst (v := 0) hx hb dX3_tellOne_11 (by decide) ?_
    obtain ⟨rfl, rfl, rfl, rfl, rfl, rfl, rfl, rfl⟩ := inj8 h88
    exact hret _ _ _ _ rfl hw dX3_tellOne_12
theorem cal_X3_tellPeople : CalV yX3_tellPeople cX3_tellPeople 3 (some .boolean) RX3 1 := ⟨t_427, t_425, t_426, t_41, by decide +kernel⟩
set_option maxHeartbeats 4000000 in
set_option maxRecDepth 100000 in
theorem cX3_tellPeople_ok (l : Launch) (d : va_G) (cy : Nat → ClassId) (a0 a1 t0 t1 t2 g0 g1 g2 g3 : Nat) (a_letters : Nat → Int32) (a_length : Int32) (a_place : Int32) (t_people : Int32) (t_fewest : Int32) (t_kinds : Nat → Int32) (t_loves : Nat → Int32) (g_many : Nat → Int32) (g_sets : Nat → Int32) (g_chalk : Nat → Int32) (g_wet : Int32) (g_harvest : Int32) (g_draw : Int32) (r : Int32) (a_place_r : Int32) (t_people_r : Int32) (t_kinds_r : Nat → Int32) (t_loves_r : Nat → Int32) (g_many_r : Nat → Int32) (g_sets_r : Nat → Int32) (g_chalk_r : Nat → Int32) (h0 : fX3_tellPeople a_letters a_length a_place t_people t_kinds t_loves g_many g_sets g_chalk = some (r, a_place_r, t_people_r, t_kinds_r, t_loves_r, g_many_r, g_sets_r, g_chalk_r)) : CI l yX3_tellPeople cX3_tellPeople 3 (some .boolean) 7 160 d cy [.ref a0, .ref t0] (List.flatten [wA cy a0 a1 a_letters a_length a_place, wT cy t0 t1 t2 g0 t_people t_fewest t_kinds t_loves, wG cy g0 g1 g2 g3 g_many g_sets g_chalk g_wet g_harvest g_draw]) (List.flatten [wA cy a0 a1 a_letters a_length a_place_r, wT cy t0 t1 t2 g0 t_people_r t_fewest t_kinds_r t_loves_r, wG cy g0 g1 g2 g3 g_many_r g_sets_r g_chalk_r g_wet g_harvest g_draw]) r := by
  refine CZ.of (by decide) (Nat.le_of_ble_eq_true rfl) ?_
  intro p e s m args below meth c A ls Q F hret hw hl
  have hx := F.1
  have hb := F.2.1
  have hl : lv_has ls 3 [(0, .ref a0), (1, .ref t0)] := hl
  rw [fX3_tellPeople] at h0
  refine lv_iconst (v := 0) hx hb dX3_tellPeople_0 (by decide) ?_
  refine lv_istore_n (lv' := [(2, .int 0), (0, .ref a0), (1, .ref t0)]) hx hb dX3_tellPeople_1 rfl hl (by decide) rfl (fun ls hl => ?_)
  obtain ⟨zz110, h111, h112⟩ := ob1 h0
  clear h0
  have kont69 : ∀ o72 o73 q74 q75 q76 q77 q78, zz110 = Sum.inr (o72, o73, q74, q75, q76, q77, q78) → ∀ (H : Heap) (locs : List Loc) (ls : Array Slot), Wd d A s.heap (List.flatten [wA cy a0 a1 a_letters a_length o72, wT cy t0 t1 t2 g0 o73 t_fewest q74 q75, wG cy g0 g1 g2 g3 q76 q77 q78 g_wet g_harvest g_draw]) H locs → lv_has ls 3 [(0, .ref a0)] → W p l e (rmo 7 160) s m args below meth c H locs 0 0 Q (F0 m 40 ls []) := by
    intro o72 o73 q74 q75 q76 q77 q78 hz H locs ls hw hl
    subst hz
    clear h111
    have h113 : (bd2 (fX3_next a_letters a_length o72) fun r105 x106 =>
      if r105 = (-1) then
        some (1, x106, o73, q74, q75, q76, q77, q78)
      else
        some (0, x106, o73, q74, q75, q76, q77, q78)) = some (r, a_place_r, t_people_r, t_kinds_r, t_loves_r, g_many_r, g_sets_r, g_chalk_r) := h112
    clear h112
    refine lv_aload_n hx hb dX3_tellPeople_40 rfl (lv_at hl 0 rfl) ?_
    obtain ⟨r105, x106, k107, h114⟩ := ob2 h113
    clear h113
    refine g_vi F (cX3_next_ok l d cy a0 a1 a_letters a_length o72 r105 x106 k107) cal_X3_next t_330 rfl ⟨by decide, by decide⟩ hw (w' := List.flatten [wA cy a0 a1 a_letters a_length x106, wT cy t0 t1 t2 g0 o73 t_fewest q74 q75, wG cy g0 g1 g2 g3 q76 q77 q78 g_wet g_harvest g_draw]) (SCut.cut (SCut.one (SCut.take SCut.rf (SCut.skip (SCut.skip SCut.none))))) 0 3 rfl rfl hl.1 (Nat.le_of_ble_eq_true rfl) rfl dX3_tellPeople_41 (fun H locs hw => ?_)
    refine lv_iconst (v := (-1)) hx hb dX3_tellPeople_44 (by decide) ?_
    refine lv_icmp_ne (tgt := 52) hx hb dX3_tellPeople_45 (by decide) (fun c108 => ?_) (fun c108 => ?_)
    · rw [if_neg c108] at h114
      refine lv_iconst (v := 0) hx hb dX3_tellPeople_52 (by decide) ?_
      obtain ⟨rfl, rfl, rfl, rfl, rfl, rfl, rfl, rfl⟩ := inj8 h114
      exact hret _ _ _ _ rfl hw dX3_tellPeople_53
    · rw [if_pos c108] at h114
      refine lv_iconst (v := 1) hx hb dX3_tellPeople_48 (by decide) ?_
      refine lv_goto (tgt := 53) hx hb dX3_tellPeople_49 (by decide) ?_
      obtain ⟨rfl, rfl, rfl, rfl, rfl, rfl, rfl, rfl⟩ := inj8 h114
      exact hret _ _ _ _ rfl hw dX3_tellPeople_53
  have hretl : ∀ ww, zz110 = Sum.inl ww → ww = (r, a_place_r, t_people_r, t_kinds_r, t_loves_r, g_many_r, g_sets_r, g_chalk_r) := by
    intro ww hz
    subst hz
    exact Option.some.inj h112
  clear h112
  have loop71 : ∀ (n : Nat) (v61 : Int32) (v62 : Int32) (g63 : Nat → Int32) (g64 : Nat → Int32) (g65 : Nat → Int32) (g66 : Nat → Int32) (g67 : Nat → Int32) (v68 : Int32) (H : Heap) (locs : List Loc) (ls : Array Slot), Wd d A s.heap (List.flatten [wA cy a0 a1 a_letters a_length v62, wT cy t0 t1 t2 g0 v68 t_fewest g66 g67, wG cy g0 g1 g2 g3 g64 g65 g63 g_wet g_harvest g_draw]) H locs → lv_has ls 3 [(0, .ref a0), (1, .ref t0), (2, .int v61)] → fX3_tellPeople_L2 a_length a_letters n v61 v62 g63 g64 g65 g66 g67 v68 = some zz110 → W p l e (rmo 7 160) s m args below meth c H locs 0 0 Q (F0 m 2 ls []) := by
    intro n
    induction n with
    | zero =>
      intro v61 v62 g63 g64 g65 g66 g67 v68 H locs ls hw hl h115
      rw [fX3_tellPeople_L2] at h115
      cases h115
    | succ n ih70 =>
      intro v61 v62 g63 g64 g65 g66 g67 v68 H locs ls hw hl h116
      rw [fX3_tellPeople_L2] at h116
      refine lv_iload_n hx hb dX3_tellPeople_2 rfl (lv_at hl 2 rfl) ?_
      refine lv_bipush (v := 6) hx hb dX3_tellPeople_3 (by decide) ?_
      refine lv_icmp_ge (tgt := 40) hx hb dX3_tellPeople_5 (by decide) (fun c79 => ?_) (fun c79 => ?_)
      · rw [if_pos c79] at h116
        exact kont69 v62 v68 g66 g67 g64 g65 g63 (Option.some.inj h116).symm _ _ _ hw (lv_sub hl [0] rfl)
      · rw [if_neg c79] at h116
        refine lv_iload_n hx hb dX3_tellPeople_8 rfl (lv_at hl 2 rfl) ?_
        refine lv_if_le (tgt := 24) hx hb dX3_tellPeople_9 (by decide) (fun c80 => ?_) (fun c80 => ?_)
        · rw [if_pos c80] at h116
          refine lv_aload_n hx hb dX3_tellPeople_24 rfl (lv_at hl 0 rfl) ?_
          refine lv_aload_n hx hb dX3_tellPeople_25 rfl (lv_at hl 1 rfl) ?_
          obtain ⟨r81, x82, x83, f84, f85, f86, f87, f88, k89, h117⟩ := ob8 h116
          clear h116
          refine g_vi F (cX3_tellOne_ok l d cy a0 a1 t0 t1 t2 g0 g1 g2 g3 a_letters a_length v62 v68 t_fewest g66 g67 g64 g65 g63 g_wet g_harvest g_draw r81 x82 x83 f84 f85 f86 f87 f88 k89) cal_X3_tellOne t_428 rfl ⟨by decide, by decide⟩ hw (w' := List.flatten [wA cy a0 a1 a_letters a_length x82, wT cy t0 t1 t2 g0 x83 t_fewest f84 f85, wG cy g0 g1 g2 g3 f86 f87 f88 g_wet g_harvest g_draw]) Cut.all 0 3 rfl rfl hl.1 (Nat.le_of_ble_eq_true rfl) rfl dX3_tellPeople_26 (fun H locs hw => ?_)
          refine lv_if_ne (tgt := 34) hx hb dX3_tellPeople_29 (by decide) (fun c90 => ?_) (fun c90 => ?_)
          · rw [if_neg c90] at h117
            refine lv_iinc (v := (v61 + 1)) (lv' := [(2, .int (v61 + 1)), (0, .ref a0), (1, .ref t0)]) hx hb dX3_tellPeople_34 hl (k := 2) rfl rfl (by decide) rfl (fun ls hl => ?_)
            refine lv_goto (tgt := 2) hx hb dX3_tellPeople_37 (by decide) ?_
            exact ih70 (v61 + 1) x82 f88 f86 f87 f84 f85 x83 _ _ _ hw (lv_sub hl [1, 2, 0] rfl) h117
          · rw [if_pos c90] at h117
            refine lv_iconst (v := 0) hx hb dX3_tellPeople_32 (by decide) ?_
            cases hretl _ (Option.some.inj h117).symm
            exact hret _ _ _ _ rfl hw dX3_tellPeople_33
        · rw [if_neg c80] at h116
          refine lv_aload_n hx hb dX3_tellPeople_12 rfl (lv_at hl 0 rfl) ?_
          refine lv_bipush (v := 44) hx hb dX3_tellPeople_13 (by decide) ?_
          obtain ⟨r91, x92, k93, h118⟩ := ob2 h116
          clear h116
          refine g_vi F (cX3_takes_ok l d cy a0 a1 a_letters a_length v62 44 r91 x92 k93) cal_X3_takes t_420 rfl ⟨by decide, by decide⟩ hw (w' := List.flatten [wA cy a0 a1 a_letters a_length x92, wT cy t0 t1 t2 g0 v68 t_fewest g66 g67, wG cy g0 g1 g2 g3 g64 g65 g63 g_wet g_harvest g_draw]) (SCut.cut (SCut.one (SCut.take SCut.rf (SCut.skip (SCut.skip SCut.none))))) 0 3 rfl rfl hl.1 (Nat.le_of_ble_eq_true rfl) rfl dX3_tellPeople_15 (fun H locs hw => ?_)
          refine lv_if_ne (tgt := 24) hx hb dX3_tellPeople_18 (by decide) (fun c94 => ?_) (fun c94 => ?_)
          · rw [if_neg c94] at h118
            refine lv_aload_n hx hb dX3_tellPeople_24 rfl (lv_at hl 0 rfl) ?_
            refine lv_aload_n hx hb dX3_tellPeople_25 rfl (lv_at hl 1 rfl) ?_
            obtain ⟨r95, x96, x97, f98, f99, f100, f101, f102, k103, h119⟩ := ob8 h118
            clear h118
            refine g_vi F (cX3_tellOne_ok l d cy a0 a1 t0 t1 t2 g0 g1 g2 g3 a_letters a_length x92 v68 t_fewest g66 g67 g64 g65 g63 g_wet g_harvest g_draw r95 x96 x97 f98 f99 f100 f101 f102 k103) cal_X3_tellOne t_428 rfl ⟨by decide, by decide⟩ hw (w' := List.flatten [wA cy a0 a1 a_letters a_length x96, wT cy t0 t1 t2 g0 x97 t_fewest f98 f99, wG cy g0 g1 g2 g3 f100 f101 f102 g_wet g_harvest g_draw]) Cut.all 0 3 rfl rfl hl.1 (Nat.le_of_ble_eq_true rfl) rfl dX3_tellPeople_26 (fun H locs hw => ?_)
            refine lv_if_ne (tgt := 34) hx hb dX3_tellPeople_29 (by decide) (fun c104 => ?_) (fun c104 => ?_)
            · rw [if_neg c104] at h119
              refine lv_iinc (v := (v61 + 1)) (lv' := [(2, .int (v61 + 1)), (0, .ref a0), (1, .ref t0)]) hx hb dX3_tellPeople_34 hl (k := 2) rfl rfl (by decide) rfl (fun ls hl => ?_)
              refine lv_goto (tgt := 2) hx hb dX3_tellPeople_37 (by decide) ?_
              exact ih70 (v61 + 1) x96 f102 f100 f101 f98 f99 x97 _ _ _ hw (lv_sub hl [1, 2, 0] rfl) h119
            · rw [if_pos c104] at h119
              refine lv_iconst (v := 0) hx hb dX3_tellPeople_32 (by decide) ?_
              cases hretl _ (Option.some.inj h119).symm
              exact hret _ _ _ _ rfl hw dX3_tellPeople_33
          · rw [if_pos c94] at h118
            refine lv_goto (tgt := 40) hx hb dX3_tellPeople_21 (by decide) ?_
            exact kont69 x92 v68 g66 g67 g64 g65 g63 (Option.some.inj h118).symm _ _ _ hw (lv_sub hl [0] rfl)
  exact loop71 fl 0 a_place g_chalk g_many g_sets t_kinds t_loves t_people _ _ _ hw (lv_sub hl [1, 2, 0] rfl) h111
theorem cal_X3_lovesAreThere : CalV yX3_lovesAreThere cX3_lovesAreThere 3 (some .boolean) RX3 1 := ⟨t_449, t_447, t_448, t_41, by decide +kernel⟩
set_option maxHeartbeats 4000000 in
set_option maxRecDepth 100000 in
theorem cX3_lovesAreThere_ok (l : Launch) (d : va_G) (cy : Nat → ClassId) (a0 a1 t0 t1 t2 g0 g1 g2 g3 : Nat) (a_letters : Nat → Int32) (a_length : Int32) (a_place : Int32) (t_people : Int32) (t_fewest : Int32) (t_kinds : Nat → Int32) (t_loves : Nat → Int32) (g_many : Nat → Int32) (g_sets : Nat → Int32) (g_chalk : Nat → Int32) (g_wet : Int32) (g_harvest : Int32) (g_draw : Int32) (r : Int32) (h0 : fX3_lovesAreThere t_people t_loves = some (r)) : CI l yX3_lovesAreThere cX3_lovesAreThere 3 (some .boolean) 0 0 d cy [.ref a0, .ref t0] (List.flatten [wA cy a0 a1 a_letters a_length a_place, wT cy t0 t1 t2 g0 t_people t_fewest t_kinds t_loves, wG cy g0 g1 g2 g3 g_many g_sets g_chalk g_wet g_harvest g_draw]) (List.flatten [wA cy a0 a1 a_letters a_length a_place, wT cy t0 t1 t2 g0 t_people t_fewest t_kinds t_loves, wG cy g0 g1 g2 g3 g_many g_sets g_chalk g_wet g_harvest g_draw]) r := by
  refine CZ.of (by decide) (Nat.le_of_ble_eq_true rfl) ?_
  intro p e s m args below meth c A ls Q F hret hw hl
  have hx := F.1
  have hb := F.2.1
  have hl : lv_has ls 3 [(0, .ref a0), (1, .ref t0)] := hl
  rw [fX3_lovesAreThere] at h0
  refine lv_iconst (v := 0) hx hb dX3_lovesAreThere_0 (by decide) ?_
  refine lv_istore_n (lv' := [(2, .int 0), (0, .ref a0), (1, .ref t0)]) hx hb dX3_lovesAreThere_1 rfl hl (by decide) rfl (fun ls hl => ?_)
  obtain ⟨zz19, h20, h21⟩ := ob1 h0
  clear h0
  have kont11 : ∀ (_ : Unit), zz19 = Sum.inr () → ∀ (H : Heap) (locs : List Loc) (ls : Array Slot), Wd d A s.heap (List.flatten [wA cy a0 a1 a_letters a_length a_place, wT cy t0 t1 t2 g0 t_people t_fewest t_kinds t_loves, wG cy g0 g1 g2 g3 g_many g_sets g_chalk g_wet g_harvest g_draw]) H locs → lv_has ls 3 [] → W p l e (rmo 0 0) s m args below meth c H locs 0 0 Q (F0 m 31 ls []) := by
    intro _ hz H locs ls hw hl
    subst hz
    clear h20
    have h22 : (some (1)) = some (r) := h21
    clear h21
    refine lv_iconst (v := 1) hx hb dX3_lovesAreThere_31 (by decide) ?_
    obtain rfl := inj1 h22
    exact hret _ _ _ _ rfl hw dX3_lovesAreThere_32
  have hretl : ∀ ww, zz19 = Sum.inl ww → ww = (r) := by
    intro ww hz
    subst hz
    exact Option.some.inj h21
  clear h21
  have loop13 : ∀ (n : Nat) (v10 : Int32) (H : Heap) (locs : List Loc) (ls : Array Slot), Wd d A s.heap (List.flatten [wA cy a0 a1 a_letters a_length a_place, wT cy t0 t1 t2 g0 t_people t_fewest t_kinds t_loves, wG cy g0 g1 g2 g3 g_many g_sets g_chalk g_wet g_harvest g_draw]) H locs → lv_has ls 3 [(1, .ref t0), (2, .int v10)] → fX3_lovesAreThere_L2 t_loves t_people n v10 = some zz19 → W p l e (rmo 0 0) s m args below meth c H locs 0 0 Q (F0 m 2 ls []) := by
    intro n
    induction n with
    | zero =>
      intro v10 H locs ls hw hl h23
      rw [fX3_lovesAreThere_L2] at h23
      cases h23
    | succ n ih12 =>
      intro v10 H locs ls hw hl h24
      rw [fX3_lovesAreThere_L2] at h24
      refine lv_iload_n hx hb dX3_lovesAreThere_2 rfl (lv_at hl 1 rfl) ?_
      refine lv_aload_n hx hb dX3_lovesAreThere_3 rfl (lv_at hl 0 rfl) ?_
      refine g_get F inG4 hw 2 rfl rfl 0 (by decide) t_106 (fun _ h9 => h9) rfl dX3_lovesAreThere_4 ?_
      refine lv_icmp_ge (tgt := 31) hx hb dX3_lovesAreThere_7 (by decide) (fun c14 => ?_) (fun c14 => ?_)
      · rw [if_pos c14] at h24
        exact kont11 () (Option.some.inj h24).symm _ _ _ hw (lv_sub hl [] rfl)
      · rw [if_neg c14] at h24
        refine lv_aload_n hx hb dX3_lovesAreThere_10 rfl (lv_at hl 0 rfl) ?_
        refine g_get F inG4 hw 2 rfl rfl 3 (by decide) t_113 (fun _ h9 => h9) rfl dX3_lovesAreThere_11 ?_
        refine lv_iload_n hx hb dX3_lovesAreThere_14 rfl (lv_at hl 1 rfl) ?_
        obtain ⟨j15, k16, h25⟩ := ob1 h24
        clear h24
        refine g_iald F hw 4 rfl k16 dX3_lovesAreThere_15 ?_
        refine lv_aload_n hx hb dX3_lovesAreThere_16 rfl (lv_at hl 0 rfl) ?_
        refine g_get F inG4 hw 2 rfl rfl 0 (by decide) t_106 (fun _ h9 => h9) rfl dX3_lovesAreThere_17 ?_
        refine lv_icmp_lt (tgt := 25) hx hb dX3_lovesAreThere_20 (by decide) (fun c17 => ?_) (fun c17 => ?_)
        · rw [if_pos c17] at h25
          refine lv_iinc (v := (v10 + 1)) (lv' := [(2, .int (v10 + 1)), (1, .ref t0)]) hx hb dX3_lovesAreThere_25 hl (k := 1) rfl rfl (by decide) rfl (fun ls hl => ?_)
          refine lv_goto (tgt := 2) hx hb dX3_lovesAreThere_28 (by decide) ?_
          exact ih12 (v10 + 1) _ _ _ hw (lv_sub hl [1, 0] rfl) h25
        · rw [if_neg c17] at h25
          refine lv_iconst (v := 0) hx hb dX3_lovesAreThere_23 (by decide) ?_
          cases hretl _ (Option.some.inj h25).symm
          exact hret _ _ _ _ rfl hw dX3_lovesAreThere_24
  exact loop13 fl 0 _ _ _ hw (lv_sub hl [2, 0] rfl) h20
theorem cal_X3_tell : CalV yX3_tell cX3_tell 2 (some .boolean) RX3 1 := ⟨t_320, t_318, t_319, t_41, by decide +kernel⟩
set_option maxHeartbeats 4000000 in
set_option maxRecDepth 100000 in
theorem cX3_tell_ok (l : Launch) (d : va_G) (cy : Nat → ClassId) (a0 a1 t0 t1 t2 g0 g1 g2 g3 : Nat) (a_letters : Nat → Int32) (a_length : Int32) (a_place : Int32) (t_people : Int32) (t_fewest : Int32) (t_kinds : Nat → Int32) (t_loves : Nat → Int32) (g_many : Nat → Int32) (g_sets : Nat → Int32) (g_chalk : Nat → Int32) (g_wet : Int32) (g_harvest : Int32) (g_draw : Int32) (r : Int32) (a_place_r : Int32) (t_people_r : Int32) (t_kinds_r : Nat → Int32) (t_loves_r : Nat → Int32) (g_many_r : Nat → Int32) (g_sets_r : Nat → Int32) (g_chalk_r : Nat → Int32) (g_wet_r : Int32) (g_harvest_r : Int32) (h0 : fX3_tell a_letters a_length t_kinds t_loves g_many g_sets g_chalk = some (r, a_place_r, t_people_r, t_kinds_r, t_loves_r, g_many_r, g_sets_r, g_chalk_r, g_wet_r, g_harvest_r)) : CI l yX3_tell cX3_tell 2 (some .boolean) 8 182 d cy [.ref a0, .ref t0] (List.flatten [wA cy a0 a1 a_letters a_length a_place, wT cy t0 t1 t2 g0 t_people t_fewest t_kinds t_loves, wG cy g0 g1 g2 g3 g_many g_sets g_chalk g_wet g_harvest g_draw]) (List.flatten [wA cy a0 a1 a_letters a_length a_place_r, wT cy t0 t1 t2 g0 t_people_r t_fewest t_kinds_r t_loves_r, wG cy g0 g1 g2 g3 g_many_r g_sets_r g_chalk_r g_wet_r g_harvest_r g_draw]) r := by
  refine CZ.of (by decide) (Nat.le_of_ble_eq_true rfl) ?_
  intro p e s m args below meth c A ls Q F hret hw hl
  have hx := F.1
  have hb := F.2.1
  have hl : lv_has ls 2 [(0, .ref a0), (1, .ref t0)] := hl
  rw [fX3_tell] at h0
  refine lv_aload_n hx hb dX3_tell_0 rfl (lv_at hl 0 rfl) ?_
  refine lv_iconst (v := 0) hx hb dX3_tell_1 (by decide) ?_
  refine g_put F inG3 tyX3 tyX3_ok nmX3 hw 0 rfl rfl 2 (by decide) t_154 (fun _ h9 => h9) rfl (ty := .int) (by decide +kernel) rfl rfl (Nat.le_of_ble_eq_true rfl) dX3_tell_2 (w' := List.flatten [wA cy a0 a1 a_letters a_length 0, wT cy t0 t1 t2 g0 t_people t_fewest t_kinds t_loves, wG cy g0 g1 g2 g3 g_many g_sets g_chalk g_wet g_harvest g_draw]) rfl (fun H locs hw => ?_)
  refine lv_aload_n hx hb dX3_tell_5 rfl (lv_at hl 1 rfl) ?_
  refine lv_iconst (v := 0) hx hb dX3_tell_6 (by decide) ?_
  refine g_put F inG4 tyX4 tyX4_ok nmX4 hw 2 rfl rfl 0 (by decide) t_106 (fun _ h9 => h9) rfl (ty := .int) (by decide +kernel) rfl rfl (Nat.le_of_ble_eq_true rfl) dX3_tell_7 (w' := List.flatten [wA cy a0 a1 a_letters a_length 0, wT cy t0 t1 t2 g0 0 t_fewest t_kinds t_loves, wG cy g0 g1 g2 g3 g_many g_sets g_chalk g_wet g_harvest g_draw]) rfl (fun H locs hw => ?_)
  refine lv_aload_n hx hb dX3_tell_10 rfl (lv_at hl 0 rfl) ?_
  refine lv_aload_n hx hb dX3_tell_11 rfl (lv_at hl 1 rfl) ?_
  refine g_get F inG4 hw 2 rfl rfl 4 (by decide) t_115 (fun _ h9 => h9) rfl dX3_tell_12 ?_
  obtain ⟨r1, x2, x3, x4, k5, h24⟩ := ob4 h0
  clear h0
  refine g_vi F (cX3_tellSundays_ok l d cy a0 a1 g0 g1 g2 g3 a_letters a_length 0 g_many g_sets g_chalk g_wet g_harvest g_draw r1 x2 x3 x4 k5) cal_X3_tellSundays t_321 rfl ⟨by decide, by decide⟩ hw (w' := List.flatten [wA cy a0 a1 a_letters a_length x2, wT cy t0 t1 t2 g0 0 t_fewest t_kinds t_loves, wG cy g0 g1 g2 g3 g_many g_sets g_chalk x3 x4 g_draw]) (SCut.cut (SCut.take SCut.rf (SCut.skip (SCut.take SCut.rf SCut.none)))) 0 3 rfl rfl hl.1 (Nat.le_of_ble_eq_true rfl) rfl dX3_tell_15 (fun H locs hw => ?_)
  refine lv_if_eq (tgt := 50) hx hb dX3_tell_18 (by decide) (fun c6 => ?_) (fun c6 => ?_)
  · rw [if_pos c6] at h24
    refine lv_iconst (v := 0) hx hb dX3_tell_50 (by decide) ?_
    obtain ⟨rfl, rfl, rfl, rfl, rfl, rfl, rfl, rfl, rfl, rfl⟩ := inj10 h24
    exact hret _ _ _ _ rfl hw dX3_tell_51
  · rw [if_neg c6] at h24
    refine lv_aload_n hx hb dX3_tell_21 rfl (lv_at hl 0 rfl) ?_
    refine lv_bipush (v := 59) hx hb dX3_tell_22 (by decide) ?_
    obtain ⟨r7, x8, k9, h25⟩ := ob2 h24
    clear h24
    refine g_vi F (cX3_takes_ok l d cy a0 a1 a_letters a_length x2 59 r7 x8 k9) cal_X3_takes t_420 rfl ⟨by decide, by decide⟩ hw (w' := List.flatten [wA cy a0 a1 a_letters a_length x8, wT cy t0 t1 t2 g0 0 t_fewest t_kinds t_loves, wG cy g0 g1 g2 g3 g_many g_sets g_chalk x3 x4 g_draw]) (SCut.cut (SCut.one (SCut.take SCut.rf (SCut.skip (SCut.skip SCut.none))))) 0 3 rfl rfl hl.1 (Nat.le_of_ble_eq_true rfl) rfl dX3_tell_24 (fun H locs hw => ?_)
    refine lv_if_eq (tgt := 50) hx hb dX3_tell_27 (by decide) (fun c10 => ?_) (fun c10 => ?_)
    · rw [if_pos c10] at h25
      refine lv_iconst (v := 0) hx hb dX3_tell_50 (by decide) ?_
      obtain ⟨rfl, rfl, rfl, rfl, rfl, rfl, rfl, rfl, rfl, rfl⟩ := inj10 h25
      exact hret _ _ _ _ rfl hw dX3_tell_51
    · rw [if_neg c10] at h25
      refine lv_aload_n hx hb dX3_tell_30 rfl (lv_at hl 0 rfl) ?_
      refine lv_aload_n hx hb dX3_tell_31 rfl (lv_at hl 1 rfl) ?_
      obtain ⟨r11, x12, x13, f14, f15, f16, f17, f18, k19, h26⟩ := ob8 h25
      clear h25
      refine g_vi F (cX3_tellPeople_ok l d cy a0 a1 t0 t1 t2 g0 g1 g2 g3 a_letters a_length x8 0 t_fewest t_kinds t_loves g_many g_sets g_chalk x3 x4 g_draw r11 x12 x13 f14 f15 f16 f17 f18 k19) cal_X3_tellPeople t_424 rfl ⟨by decide, by decide⟩ hw (w' := List.flatten [wA cy a0 a1 a_letters a_length x12, wT cy t0 t1 t2 g0 x13 t_fewest f14 f15, wG cy g0 g1 g2 g3 f16 f17 f18 x3 x4 g_draw]) Cut.all 0 3 rfl rfl hl.1 (Nat.le_of_ble_eq_true rfl) rfl dX3_tell_32 (fun H locs hw => ?_)
      refine lv_if_eq (tgt := 50) hx hb dX3_tell_35 (by decide) (fun c20 => ?_) (fun c20 => ?_)
      · rw [if_pos c20] at h26
        refine lv_iconst (v := 0) hx hb dX3_tell_50 (by decide) ?_
        obtain ⟨rfl, rfl, rfl, rfl, rfl, rfl, rfl, rfl, rfl, rfl⟩ := inj10 h26
        exact hret _ _ _ _ rfl hw dX3_tell_51
      · rw [if_neg c20] at h26
        refine lv_aload_n hx hb dX3_tell_38 rfl (lv_at hl 0 rfl) ?_
        refine lv_aload_n hx hb dX3_tell_39 rfl (lv_at hl 1 rfl) ?_
        obtain ⟨r21, k22, h27⟩ := ob1 h26
        clear h26
        refine g_vi F (cX3_lovesAreThere_ok l d cy a0 a1 t0 t1 t2 g0 g1 g2 g3 a_letters a_length x12 x13 t_fewest f14 f15 f16 f17 f18 x3 x4 g_draw r21 k22) cal_X3_lovesAreThere t_446 rfl ⟨by decide, by decide⟩ hw (w' := List.flatten [wA cy a0 a1 a_letters a_length x12, wT cy t0 t1 t2 g0 x13 t_fewest f14 f15, wG cy g0 g1 g2 g3 f16 f17 f18 x3 x4 g_draw]) Cut.all 0 3 rfl rfl hl.1 (Nat.le_of_ble_eq_true rfl) rfl dX3_tell_40 (fun H locs hw => ?_)
        refine lv_if_eq (tgt := 50) hx hb dX3_tell_43 (by decide) (fun c23 => ?_) (fun c23 => ?_)
        · rw [if_pos c23] at h27
          refine lv_iconst (v := 0) hx hb dX3_tell_50 (by decide) ?_
          obtain ⟨rfl, rfl, rfl, rfl, rfl, rfl, rfl, rfl, rfl, rfl⟩ := inj10 h27
          exact hret _ _ _ _ rfl hw dX3_tell_51
        · rw [if_neg c23] at h27
          refine lv_iconst (v := 1) hx hb dX3_tell_46 (by decide) ?_
          refine lv_goto (tgt := 51) hx hb dX3_tell_47 (by decide) ?_
          obtain ⟨rfl, rfl, rfl, rfl, rfl, rfl, rfl, rfl, rfl, rfl⟩ := inj10 h27
          exact hret _ _ _ _ rfl hw dX3_tell_51
