theorem t_74 : (Cond.fieldLink "SundayMarket" 88 "SundayMarket$Goods" "sets" "[I") ∈ gtbl := wd 74 (by decide +kernel) (by decide +kernel)
theorem t_78 : (Cond.fieldLink "SundayMarket" 83 "SundayMarket$Goods" "chalk" "[I") ∈ gtbl := wd 78 (by decide +kernel) (by decide +kernel)
theorem t_81 : (Cond.fieldLink "SundayMarket" 113 "SundayMarket$Goods" "wet" "I") ∈ gtbl := wd 81 (by decide +kernel) (by decide +kernel)
theorem t_86 : (Cond.fieldLink "SundayMarket" 116 "SundayMarket$Goods" "harvest" "I") ∈ gtbl := wd 86 (by decide +kernel) (by decide +kernel)
theorem t_105 : (Cond.fieldLink "SundayMarket" 54 "SundayMarket$Town" "people" "I") ∈ gtbl := wd 105 (by decide +kernel) (by decide +kernel)
theorem t_108 : (Cond.fieldLink "SundayMarket" 73 "SundayMarket$Town" "fewest" "I") ∈ gtbl := wd 108 (by decide +kernel) (by decide +kernel)
theorem t_110 : (Cond.fieldLink "SundayMarket" 76 "SundayMarket$Town" "kinds" "[I") ∈ gtbl := wd 110 (by decide +kernel) (by decide +kernel)
theorem t_112 : (Cond.fieldLink "SundayMarket" 69 "SundayMarket$Town" "loves" "[I") ∈ gtbl := wd 112 (by decide +kernel) (by decide +kernel)
theorem t_116 : (Cond.fieldLink "SundayMarket" 79 "SundayMarket$Town" "goods" "LSundayMarket$Goods;") ∈ gtbl := wd 116 (by decide +kernel) (by decide +kernel)
theorem t_139 : (Cond.fieldLink "SundayMarket" 151 "SundayMarket$Past" "known" "I") ∈ gtbl := wd 139 (by decide +kernel) (by decide +kernel)
theorem t_153 : (Cond.fieldLink "SundayMarket" 123 "SundayMarket$Tape" "length" "I") ∈ gtbl := wd 153 (by decide +kernel) (by decide +kernel)
theorem t_155 : (Cond.fieldLink "SundayMarket" 138 "SundayMarket$Tape" "place" "I") ∈ gtbl := wd 155 (by decide +kernel) (by decide +kernel)
theorem t_185 : (Cond.fieldLink "SundayMarket" 12 "SundayMarket" "now" "LSundayMarket$Town;") ∈ gtbl := wd 185 (by decide +kernel) (by decide +kernel)
theorem t_186 : (Cond.fieldLink "SundayMarket" 19 "SundayMarket" "past" "LSundayMarket$Past;") ∈ gtbl := wd 186 (by decide +kernel) (by decide +kernel)
theorem t_190 : (Cond.fieldLink "SundayMarket" 33 "SundayMarket" "trial" "LSundayMarket$Town;") ∈ gtbl := wd 190 (by decide +kernel) (by decide +kernel)
theorem t_191 : (Cond.fieldLink "SundayMarket" 39 "SundayMarket" "tape" "LSundayMarket$Tape;") ∈ gtbl := wd 191 (by decide +kernel) (by decide +kernel)
theorem t_211 : (Cond.instanceMethod yX5_person) ∈ gtbl := wd 211 (by decide +kernel) (by decide +kernel)
theorem t_212 : (Cond.selects "SundayMarket" yX5_person yX5_person) ∈ gtbl := wd 212 (by decide +kernel) (by decide +kernel)
theorem t_213 : (Cond.code yX5_person prog_1_method_2_code 2 (some .int)) ∈ gtbl := wd 213 (by decide +kernel) (by decide +kernel)
theorem t_217 : (Cond.methodLink "SundayMarket" 58 yX1_forget) ∈ gtbl := wd 217 (by decide +kernel) (by decide +kernel)
theorem t_221 : (Cond.methodLink "SundayMarket" 61 yX4_settle) ∈ gtbl := wd 221 (by decide +kernel) (by decide +kernel)
theorem t_230 : (Cond.instanceMethod yX5_love) ∈ gtbl := wd 230 (by decide +kernel) (by decide +kernel)
theorem t_231 : (Cond.selects "SundayMarket" yX5_love yX5_love) ∈ gtbl := wd 231 (by decide +kernel) (by decide +kernel)
theorem t_232 : (Cond.code yX5_love prog_1_method_3_code 4 (some .int)) ∈ gtbl := wd 232 (by decide +kernel) (by decide +kernel)
theorem t_233 : (Cond.methodLink "SundayMarket" 65 yX4_isOne) ∈ gtbl := wd 233 (by decide +kernel) (by decide +kernel)
theorem t_238 : (Cond.instanceMethod yX5_least) ∈ gtbl := wd 238 (by decide +kernel) (by decide +kernel)
theorem t_239 : (Cond.selects "SundayMarket" yX5_least yX5_least) ∈ gtbl := wd 239 (by decide +kernel) (by decide +kernel)
theorem t_240 : (Cond.code yX5_least prog_1_method_4_code 3 (some .int)) ∈ gtbl := wd 240 (by decide +kernel) (by decide +kernel)
theorem t_242 : (Cond.instanceMethod yX5_of) ∈ gtbl := wd 242 (by decide +kernel) (by decide +kernel)
theorem t_243 : (Cond.selects "SundayMarket" yX5_of yX5_of) ∈ gtbl := wd 243 (by decide +kernel) (by decide +kernel)
theorem t_244 : (Cond.code yX5_of prog_1_method_5_code 3 (some .int)) ∈ gtbl := wd 244 (by decide +kernel) (by decide +kernel)
theorem t_245 : (Cond.methodLink "SundayMarket" 91 yX0_manyInAll) ∈ gtbl := wd 245 (by decide +kernel) (by decide +kernel)
theorem t_253 : (Cond.methodLink "SundayMarket" 95 yX4_worthOf) ∈ gtbl := wd 253 (by decide +kernel) (by decide +kernel)
theorem t_272 : (Cond.instanceMethod yX5_has) ∈ gtbl := wd 272 (by decide +kernel) (by decide +kernel)
theorem t_273 : (Cond.selects "SundayMarket" yX5_has yX5_has) ∈ gtbl := wd 273 (by decide +kernel) (by decide +kernel)
theorem t_274 : (Cond.code yX5_has prog_1_method_6_code 4 (some .int)) ∈ gtbl := wd 274 (by decide +kernel) (by decide +kernel)
theorem t_275 : (Cond.methodLink "SundayMarket" 98 yX5_isHalf) ∈ gtbl := wd 275 (by decide +kernel) (by decide +kernel)
theorem t_278 : (Cond.methodLink "SundayMarket" 101 yX5_isFlag) ∈ gtbl := wd 278 (by decide +kernel) (by decide +kernel)
theorem t_281 : (Cond.methodLink "SundayMarket" 104 yX0_manyOf) ∈ gtbl := wd 281 (by decide +kernel) (by decide +kernel)
theorem t_282 : (Cond.methodLink "SundayMarket" 107 yX4_worthOfHalf) ∈ gtbl := wd 282 (by decide +kernel) (by decide +kernel)
theorem t_287 : (Cond.instanceMethod yX5_at) ∈ gtbl := wd 287 (by decide +kernel) (by decide +kernel)
theorem t_288 : (Cond.selects "SundayMarket" yX5_at yX5_at) ∈ gtbl := wd 288 (by decide +kernel) (by decide +kernel)
theorem t_289 : (Cond.code yX5_at prog_1_method_7_code 3 (some .int)) ∈ gtbl := wd 289 (by decide +kernel) (by decide +kernel)
theorem t_290 : (Cond.methodLink "SundayMarket" 110 yX5_isSunday) ∈ gtbl := wd 290 (by decide +kernel) (by decide +kernel)
theorem t_294 : (Cond.instanceMethod yX5_type) ∈ gtbl := wd 294 (by decide +kernel) (by decide +kernel)
theorem t_295 : (Cond.selects "SundayMarket" yX5_type yX5_type) ∈ gtbl := wd 295 (by decide +kernel) (by decide +kernel)
theorem t_296 : (Cond.code yX5_type prog_1_method_8_code 2 (some .int)) ∈ gtbl := wd 296 (by decide +kernel) (by decide +kernel)
theorem t_297 : (Cond.methodLink "SundayMarket" 126 yX3_put) ∈ gtbl := wd 297 (by decide +kernel) (by decide +kernel)
theorem t_302 : (Cond.instanceMethod yX5_read) ∈ gtbl := wd 302 (by decide +kernel) (by decide +kernel)
theorem t_303 : (Cond.selects "SundayMarket" yX5_read yX5_read) ∈ gtbl := wd 303 (by decide +kernel) (by decide +kernel)
theorem t_304 : (Cond.code yX5_read prog_1_method_9_code 3 (some .int)) ∈ gtbl := wd 304 (by decide +kernel) (by decide +kernel)
theorem t_305 : (Cond.methodLink "SundayMarket" 130 yX4_copyTown) ∈ gtbl := wd 305 (by decide +kernel) (by decide +kernel)
theorem t_317 : (Cond.methodLink "SundayMarket" 134 yX3_tell) ∈ gtbl := wd 317 (by decide +kernel) (by decide +kernel)
theorem t_450 : (Cond.methodLink "SundayMarket" 141 yX3_wipe) ∈ gtbl := wd 450 (by decide +kernel) (by decide +kernel)
theorem t_456 : (Cond.instanceMethod yX5_count) ∈ gtbl := wd 456 (by decide +kernel) (by decide +kernel)
theorem t_457 : (Cond.selects "SundayMarket" yX5_count yX5_count) ∈ gtbl := wd 457 (by decide +kernel) (by decide +kernel)
theorem t_458 : (Cond.code yX5_count prog_1_method_10_code 2 (some .int)) ∈ gtbl := wd 458 (by decide +kernel) (by decide +kernel)
theorem t_459 : (Cond.methodLink "SundayMarket" 144 yX4_worthOfAll) ∈ gtbl := wd 459 (by decide +kernel) (by decide +kernel)
theorem t_464 : (Cond.methodLink "SundayMarket" 148 yX4_chalkOfAll) ∈ gtbl := wd 464 (by decide +kernel) (by decide +kernel)
theorem t_469 : (Cond.instanceMethod yX5_sell) ∈ gtbl := wd 469 (by decide +kernel) (by decide +kernel)
theorem t_470 : (Cond.selects "SundayMarket" yX5_sell yX5_sell) ∈ gtbl := wd 470 (by decide +kernel) (by decide +kernel)
theorem t_471 : (Cond.code yX5_sell prog_1_method_11_code 5 (some .int)) ∈ gtbl := wd 471 (by decide +kernel) (by decide +kernel)
theorem t_472 : (Cond.methodLink "SundayMarket" 154 yX4_areTwo) ∈ gtbl := wd 472 (by decide +kernel) (by decide +kernel)
theorem t_477 : (Cond.methodLink "SundayMarket" 157 yX4_maySell) ∈ gtbl := wd 477 (by decide +kernel) (by decide +kernel)
theorem t_488 : (Cond.methodLink "SundayMarket" 161 yX1_remember) ∈ gtbl := wd 488 (by decide +kernel) (by decide +kernel)
theorem t_497 : (Cond.methodLink "SundayMarket" 165 yX0_move) ∈ gtbl := wd 497 (by decide +kernel) (by decide +kernel)
theorem t_502 : (Cond.methodLink "SundayMarket" 169 yX0_pay) ∈ gtbl := wd 502 (by decide +kernel) (by decide +kernel)
theorem t_507 : (Cond.instanceMethod yX5_seize) ∈ gtbl := wd 507 (by decide +kernel) (by decide +kernel)
theorem t_508 : (Cond.selects "SundayMarket" yX5_seize yX5_seize) ∈ gtbl := wd 508 (by decide +kernel) (by decide +kernel)
theorem t_509 : (Cond.code yX5_seize prog_1_method_12_code 4 (some .int)) ∈ gtbl := wd 509 (by decide +kernel) (by decide +kernel)
theorem t_510 : (Cond.methodLink "SundayMarket" 172 yX4_dearestHalf) ∈ gtbl := wd 510 (by decide +kernel) (by decide +kernel)
theorem t_516 : (Cond.instanceMethod yX5_give) ∈ gtbl := wd 516 (by decide +kernel) (by decide +kernel)
theorem t_517 : (Cond.selects "SundayMarket" yX5_give yX5_give) ∈ gtbl := wd 517 (by decide +kernel) (by decide +kernel)
theorem t_518 : (Cond.code yX5_give prog_1_method_13_code 4 (some .int)) ∈ gtbl := wd 518 (by decide +kernel) (by decide +kernel)
theorem t_520 : (Cond.instanceMethod yX5_make) ∈ gtbl := wd 520 (by decide +kernel) (by decide +kernel)
theorem t_521 : (Cond.selects "SundayMarket" yX5_make yX5_make) ∈ gtbl := wd 521 (by decide +kernel) (by decide +kernel)
theorem t_522 : (Cond.code yX5_make prog_1_method_14_code 7 (some .int)) ∈ gtbl := wd 522 (by decide +kernel) (by decide +kernel)
theorem t_524 : (Cond.instanceMethod yX5_drift) ∈ gtbl := wd 524 (by decide +kernel) (by decide +kernel)
theorem t_525 : (Cond.selects "SundayMarket" yX5_drift yX5_drift) ∈ gtbl := wd 525 (by decide +kernel) (by decide +kernel)
theorem t_526 : (Cond.code yX5_drift prog_1_method_15_code 3 (some .int)) ∈ gtbl := wd 526 (by decide +kernel) (by decide +kernel)
theorem t_527 : (Cond.methodLink "SundayMarket" 175 yX4_driftOnce) ∈ gtbl := wd 527 (by decide +kernel) (by decide +kernel)
def fX5_person (nw_people : Int32) (nw_kinds : Nat → Int32) (nw_loves : Nat → Int32) (ng_many : Nat → Int32) (ng_sets : Nat → Int32) (ng_chalk : Nat → Int32) (ps_known : Int32) (i1 : Int32) : Option (Int32 × Int32 × (Nat → Int32) × (Nat → Int32) × (Nat → Int32) × (Nat → Int32) × (Nat → Int32) × Int32) :=
  bd1 (fX5_isWithin i1 0 4) fun r1 =>
  if r1 = 0 then
    some ((-1), nw_people, nw_kinds, nw_loves, ng_many, ng_sets, ng_chalk, ps_known)
  else
    if nw_people < 6 then
      bd1 (fX1_forget) fun x5 =>
      bd7 (fX4_settle nw_people nw_kinds nw_loves ng_many ng_sets ng_chalk i1 50) fun r7 x8 f9 f10 f11 f12 f13 =>
      some (r7, x8, f9, f10, f11, f12, f13, x5)
    else
      some ((-3), nw_people, nw_kinds, nw_loves, ng_many, ng_sets, ng_chalk, ps_known)
def fX5_love (nw_people : Int32) (nw_loves : Nat → Int32) (i1 : Int32) (i2 : Int32) : Option (Int32 × (Nat → Int32)) :=
  bd1 (fX4_isOne nw_people i1) fun r1 =>
  if r1 = 0 then
    some ((-1), nw_loves)
  else
    bd1 (fX4_isOne nw_people i2) fun r4 =>
    if r4 = 0 then
      some ((-1), nw_loves)
    else
      bd1 (ix i1 6) fun j7 =>
      some ((nw_loves j7), (upd nw_loves j7 i2))
def fX5_least (nw_fewest : Int32) (i1 : Int32) : Option (Int32 × Int32) :=
  bd1 (fX5_isWithin i1 0 12) fun r1 =>
  if r1 = 0 then
    some ((-1), nw_fewest)
  else
    some (nw_fewest, i1)
def fX5_of (nw_people : Int32) (nw_kinds : Nat → Int32) (nw_loves : Nat → Int32) (ng_many : Nat → Int32) (ng_sets : Nat → Int32) (ng_chalk : Nat → Int32) (ng_wet : Int32) (ng_harvest : Int32) (i1 : Int32) (i2 : Int32) : Option (Int32) :=
  bd1 (fX4_isOne nw_people i1) fun r1 =>
  if r1 = 0 then
    some ((-1))
  else
    if i2 = 0 then
      bd1 (ix i1 6) fun j4 =>
      some ((nw_kinds j4))
    else if i2 = 1 then
      bd1 (ix i1 6) fun j6 =>
      some ((nw_loves j6))
    else if i2 = 2 then
      bd1 (ix i1 6) fun j8 =>
      some ((ng_chalk j8))
    else if i2 = 3 then
      bd1 (ix i1 6) fun j10 =>
      some ((ng_sets j10))
    else if i2 = 4 then
      bd1 (fX0_manyInAll ng_many i1) fun r12 =>
      some (r12)
    else if i2 = 5 then
      bd1 (fX4_worthOf nw_kinds nw_loves ng_sets ng_wet ng_harvest i1) fun r14 =>
      some (r14)
    else 
      some ((-1))
def fX5_has (nw_people : Int32) (nw_kinds : Nat → Int32) (nw_loves : Nat → Int32) (ng_many : Nat → Int32) (ng_sets : Nat → Int32) (ng_wet : Int32) (ng_harvest : Int32) (i1 : Int32) (i2 : Int32) (i3 : Int32) : Option (Int32) :=
  bd1 (fX4_isOne nw_people i1) fun r1 =>
  if r1 = 0 then
    some ((-1))
  else
    bd1 (fX5_isHalf i2) fun r4 =>
    if r4 = 0 then
      some ((-1))
    else
      bd1 (fX5_isFlag i3) fun r7 =>
      if r7 = 0 then
        some ((-1))
      else
        if i3 = 0 then
          bd1 (fX0_manyOf ng_many i1 i2) fun r13 =>
          some (r13)
        else
          bd1 (fX4_worthOfHalf nw_kinds nw_loves ng_sets ng_wet ng_harvest i1 i2) fun r11 =>
          some (r11)
def fX5_at (ng_wet : Int32) (ng_harvest : Int32) (i1 : Int32) (i2 : Int32) : Option (Int32) :=
  bd1 (fX5_isSunday i1) fun r1 =>
  if r1 = 0 then
    some ((-1))
  else
    bd1 (fX5_isFlag i2) fun r4 =>
    if r4 = 0 then
      some ((-1))
    else
      bd1 (if i2 = 0 then
          some (ng_wet)
        else
          some (ng_harvest)
        : Option Int32) fun x8 =>
      bd1 (fX5_isIn x8 i1) fun r11 =>
      if r11 = 0 then
        some (0)
      else
        some (1)
def fX5_type (tp_letters : Nat → Int32) (tp_length : Int32) (i1 : Int32) : Option (Int32 × (Nat → Int32) × Int32) :=
  bd1 (fX5_isWithin i1 32 126) fun r1 =>
  if r1 = 0 then
    some ((-1), tp_letters, tp_length)
  else
    if tp_length < 100 then
      bd3 (fX3_put tp_letters tp_length ((Int32.toUInt32 i1 % 65536).toInt32)) fun r5 f6 x7 =>
      some (r5, f6, x7)
    else
      some ((-3), tp_letters, tp_length)
def fX5_read (nw_people : Int32) (nw_fewest : Int32) (nw_kinds : Nat → Int32) (nw_loves : Nat → Int32) (ng_many : Nat → Int32) (ng_sets : Nat → Int32) (ng_chalk : Nat → Int32) (ng_wet : Int32) (ng_harvest : Int32) (ng_draw : Int32) (ps_known : Int32) (tr_kinds : Nat → Int32) (tr_loves : Nat → Int32) (tg_many : Nat → Int32) (tg_sets : Nat → Int32) (tg_chalk : Nat → Int32) (tp_letters : Nat → Int32) (tp_length : Int32) : Option (Int32 × Int32 × Int32 × (Nat → Int32) × (Nat → Int32) × (Nat → Int32) × (Nat → Int32) × (Nat → Int32) × Int32 × Int32 × Int32 × Int32 × Int32 × Int32 × (Nat → Int32) × (Nat → Int32) × (Nat → Int32) × (Nat → Int32) × (Nat → Int32) × Int32 × Int32 × Int32 × Int32 × Int32) :=
  bd10 (fX4_copyTown tr_kinds tr_loves tg_many tg_sets tg_chalk nw_people nw_fewest nw_kinds nw_loves ng_many ng_sets ng_chalk ng_wet ng_harvest ng_draw) fun x1 x2 f3 f4 f5 f6 f7 x8 x9 x10 =>
  bd10 (fX3_tell tp_letters tp_length f3 f4 f5 f6 f7) fun r12 x13 x14 f15 f16 f17 f18 f19 x20 x21 =>
  bd2 (fX3_wipe) fun x23 x24 =>
  if r12 = 0 then
    some (((-20) - x13), nw_people, nw_fewest, nw_kinds, nw_loves, ng_many, ng_sets, ng_chalk, ng_wet, ng_harvest, ng_draw, ps_known, x14, x2, f15, f16, f17, f18, f19, x20, x21, x10, x23, x24)
  else
    bd10 (fX4_copyTown nw_kinds nw_loves ng_many ng_sets ng_chalk x14 x2 f15 f16 f17 f18 f19 x20 x21 x10) fun x27 x28 f29 f30 f31 f32 f33 x34 x35 x36 =>
    bd1 (fX1_forget) fun x38 =>
    some (x27, x27, x28, f29, f30, f31, f32, f33, x34, x35, x36, x38, x14, x2, f15, f16, f17, f18, f19, x20, x21, x10, x23, x24)
def fX5_count (nw_people : Int32) (nw_fewest : Int32) (nw_kinds : Nat → Int32) (nw_loves : Nat → Int32) (ng_sets : Nat → Int32) (ng_chalk : Nat → Int32) (ng_wet : Int32) (ng_harvest : Int32) (ps_known : Int32) (i1 : Int32) : Option (Int32) :=
  if i1 = 0 then
    some (nw_people)
  else if i1 = 1 then
    some (nw_fewest)
  else if i1 = 2 then
    some (ng_wet)
  else if i1 = 3 then
    some (ng_harvest)
  else if i1 = 4 then
    bd1 (fX4_worthOfAll nw_people nw_kinds nw_loves ng_sets ng_wet ng_harvest) fun r1 =>
    some (r1)
  else if i1 = 5 then
    bd1 (fX4_chalkOfAll nw_people ng_chalk) fun r3 =>
    some (r3)
  else if i1 = 6 then
    some (ps_known)
  else 
    some ((-1))
def fX5_sell (nw_people : Int32) (nw_fewest : Int32) (ng_many : Nat → Int32) (ng_sets : Nat → Int32) (ng_chalk : Nat → Int32) (ng_wet : Int32) (ng_harvest : Int32) (ng_draw : Int32) (ps_known : Int32) (ps_r0 : Nat → Nat) (ps_r1 : Nat → Nat) (ps_r2 : Nat → Nat) (ps_r3 : Nat → Nat) (ps_many : Nat → Nat → Int32) (ps_sets : Nat → Nat → Int32) (ps_chalk : Nat → Nat → Int32) (ps_wet : Nat → Int32) (ps_harvest : Nat → Int32) (ps_draw : Nat → Int32) (i1 : Int32) (i2 : Int32) (i3 : Int32) (i4 : Int32) : Option (Int32 × (Nat → Int32) × (Nat → Int32) × (Nat → Int32) × Int32 × (Nat → Nat) × (Nat → Nat) × (Nat → Nat) × (Nat → Nat) × (Nat → Nat → Int32) × (Nat → Nat → Int32) × (Nat → Nat → Int32) × (Nat → Int32) × (Nat → Int32) × (Nat → Int32)) :=
  bd1 (fX4_areTwo nw_people i1 i2) fun r1 =>
  if r1 = 0 then
    some ((-1), ng_many, ng_sets, ng_chalk, ps_known, ps_r0, ps_r1, ps_r2, ps_r3, ps_many, ps_sets, ps_chalk, ps_wet, ps_harvest, ps_draw)
  else
    bd1 (fX5_isHalf i3) fun r4 =>
    if r4 = 0 then
      some ((-1), ng_many, ng_sets, ng_chalk, ps_known, ps_r0, ps_r1, ps_r2, ps_r3, ps_many, ps_sets, ps_chalk, ps_wet, ps_harvest, ps_draw)
    else
      bd1 (fX5_isWithin i4 0 99) fun r7 =>
      if r7 = 0 then
        some ((-1), ng_many, ng_sets, ng_chalk, ps_known, ps_r0, ps_r1, ps_r2, ps_r3, ps_many, ps_sets, ps_chalk, ps_wet, ps_harvest, ps_draw)
      else
        bd1 (fX4_maySell nw_fewest ng_many ng_sets ng_chalk i1 i2 i3 i4) fun r10 =>
        if r10 = 0 then
          some ((-2), ng_many, ng_sets, ng_chalk, ps_known, ps_r0, ps_r1, ps_r2, ps_r3, ps_many, ps_sets, ps_chalk, ps_wet, ps_harvest, ps_draw)
        else
          bd11 (fX1_remember ps_known ps_r0 ps_r1 ps_r2 ps_r3 ps_many ps_sets ps_chalk ps_wet ps_harvest ps_draw ng_many ng_sets ng_chalk ng_wet ng_harvest ng_draw) fun x13 f14 f15 f16 f17 f18 f19 f20 f21 f22 f23 =>
          bd2 (fX0_move ng_many ng_sets i1 i2 i3) fun f25 f26 =>
          bd1 (fX0_pay ng_chalk i2 i1 i4) fun f28 =>
          bd1 (ix i1 6) fun j30 =>
          some ((f28 j30), f25, f26, f28, x13, f14, f15, f16, f17, f18, f19, f20, f21, f22, f23)
def fX5_seize (nw_people : Int32) (nw_kinds : Nat → Int32) (nw_loves : Nat → Int32) (ng_many : Nat → Int32) (ng_sets : Nat → Int32) (ng_chalk : Nat → Int32) (ng_wet : Int32) (ng_harvest : Int32) (ng_draw : Int32) (ps_known : Int32) (ps_r0 : Nat → Nat) (ps_r1 : Nat → Nat) (ps_r2 : Nat → Nat) (ps_r3 : Nat → Nat) (ps_many : Nat → Nat → Int32) (ps_sets : Nat → Nat → Int32) (ps_chalk : Nat → Nat → Int32) (ps_wet : Nat → Int32) (ps_harvest : Nat → Int32) (ps_draw : Nat → Int32) (i1 : Int32) (i2 : Int32) : Option (Int32 × (Nat → Int32) × (Nat → Int32) × Int32 × (Nat → Nat) × (Nat → Nat) × (Nat → Nat) × (Nat → Nat) × (Nat → Nat → Int32) × (Nat → Nat → Int32) × (Nat → Nat → Int32) × (Nat → Int32) × (Nat → Int32) × (Nat → Int32)) :=
  bd1 (fX4_areTwo nw_people i1 i2) fun r1 =>
  if r1 = 0 then
    some ((-1), ng_many, ng_sets, ps_known, ps_r0, ps_r1, ps_r2, ps_r3, ps_many, ps_sets, ps_chalk, ps_wet, ps_harvest, ps_draw)
  else
    bd1 (fX4_dearestHalf nw_kinds nw_loves ng_many ng_sets ng_wet ng_harvest i1) fun r4 =>
    if r4 = (-4) then
      some ((-2), ng_many, ng_sets, ps_known, ps_r0, ps_r1, ps_r2, ps_r3, ps_many, ps_sets, ps_chalk, ps_wet, ps_harvest, ps_draw)
    else
      bd11 (fX1_remember ps_known ps_r0 ps_r1 ps_r2 ps_r3 ps_many ps_sets ps_chalk ps_wet ps_harvest ps_draw ng_many ng_sets ng_chalk ng_wet ng_harvest ng_draw) fun x7 f8 f9 f10 f11 f12 f13 f14 f15 f16 f17 =>
      bd2 (fX0_move ng_many ng_sets i1 i2 r4) fun f19 f20 =>
      some (r4, f19, f20, x7, f8, f9, f10, f11, f12, f13, f14, f15, f16, f17)
def fX5_give (nw_people : Int32) (ng_many : Nat → Int32) (ng_sets : Nat → Int32) (ng_chalk : Nat → Int32) (ng_wet : Int32) (ng_harvest : Int32) (ng_draw : Int32) (ps_known : Int32) (ps_r0 : Nat → Nat) (ps_r1 : Nat → Nat) (ps_r2 : Nat → Nat) (ps_r3 : Nat → Nat) (ps_many : Nat → Nat → Int32) (ps_sets : Nat → Nat → Int32) (ps_chalk : Nat → Nat → Int32) (ps_wet : Nat → Int32) (ps_harvest : Nat → Int32) (ps_draw : Nat → Int32) (i1 : Int32) (i2 : Int32) (i3 : Int32) : Option (Int32 × (Nat → Int32) × Int32 × (Nat → Nat) × (Nat → Nat) × (Nat → Nat) × (Nat → Nat) × (Nat → Nat → Int32) × (Nat → Nat → Int32) × (Nat → Nat → Int32) × (Nat → Int32) × (Nat → Int32) × (Nat → Int32)) :=
  bd1 (fX4_areTwo nw_people i1 i2) fun r1 =>
  if r1 = 0 then
    some ((-1), ng_chalk, ps_known, ps_r0, ps_r1, ps_r2, ps_r3, ps_many, ps_sets, ps_chalk, ps_wet, ps_harvest, ps_draw)
  else
    bd1 (fX5_isWithin i3 1 99) fun r4 =>
    if r4 = 0 then
      some ((-1), ng_chalk, ps_known, ps_r0, ps_r1, ps_r2, ps_r3, ps_many, ps_sets, ps_chalk, ps_wet, ps_harvest, ps_draw)
    else
      bd1 (ix i1 6) fun j7 =>
      if i3 ≤ (ng_chalk j7) then
        bd11 (fX1_remember ps_known ps_r0 ps_r1 ps_r2 ps_r3 ps_many ps_sets ps_chalk ps_wet ps_harvest ps_draw ng_many ng_sets ng_chalk ng_wet ng_harvest ng_draw) fun x10 f11 f12 f13 f14 f15 f16 f17 f18 f19 f20 =>
        bd1 (fX0_pay ng_chalk i1 i2 i3) fun f22 =>
        some ((f22 j7), f22, x10, f11, f12, f13, f14, f15, f16, f17, f18, f19, f20)
      else
        some ((-2), ng_chalk, ps_known, ps_r0, ps_r1, ps_r2, ps_r3, ps_many, ps_sets, ps_chalk, ps_wet, ps_harvest, ps_draw)
def fX5_make (ng_many : Nat → Int32) (ng_sets : Nat → Int32) (ng_chalk : Nat → Int32) (ng_wet : Int32) (ng_harvest : Int32) (ng_draw : Int32) (ps_known : Int32) (ps_r0 : Nat → Nat) (ps_r1 : Nat → Nat) (ps_r2 : Nat → Nat) (ps_r3 : Nat → Nat) (ps_many : Nat → Nat → Int32) (ps_sets : Nat → Nat → Int32) (ps_chalk : Nat → Nat → Int32) (ps_wet : Nat → Int32) (ps_harvest : Nat → Int32) (ps_draw : Nat → Int32) (i1 : Int32) (i2 : Int32) (i3 : Int32) : Option (Int32 × Int32 × Int32 × Int32 × (Nat → Nat) × (Nat → Nat) × (Nat → Nat) × (Nat → Nat) × (Nat → Nat → Int32) × (Nat → Nat → Int32) × (Nat → Nat → Int32) × (Nat → Int32) × (Nat → Int32) × (Nat → Int32)) :=
  bd1 (fX5_isSunday i1) fun r1 =>
  if r1 = 0 then
    some ((-1), ng_wet, ng_harvest, ps_known, ps_r0, ps_r1, ps_r2, ps_r3, ps_many, ps_sets, ps_chalk, ps_wet, ps_harvest, ps_draw)
  else
    bd1 (fX5_isFlag i2) fun r4 =>
    if r4 = 0 then
      some ((-1), ng_wet, ng_harvest, ps_known, ps_r0, ps_r1, ps_r2, ps_r3, ps_many, ps_sets, ps_chalk, ps_wet, ps_harvest, ps_draw)
    else
      bd1 (fX5_isFlag i3) fun r7 =>
      if r7 = 0 then
        some ((-1), ng_wet, ng_harvest, ps_known, ps_r0, ps_r1, ps_r2, ps_r3, ps_many, ps_sets, ps_chalk, ps_wet, ps_harvest, ps_draw)
      else
        bd1 (if i2 = 0 then
            some (ng_wet)
          else
            some (ng_harvest)
          : Option Int32) fun x11 =>
        bd1 (fX5_isIn x11 i1) fun r14 =>
        bd1 (if i3 = 1 then
            some (1)
          else
            some (0)
          : Option Int32) fun x17 =>
        if r14 = x17 then
          some ((-2), ng_wet, ng_harvest, ps_known, ps_r0, ps_r1, ps_r2, ps_r3, ps_many, ps_sets, ps_chalk, ps_wet, ps_harvest, ps_draw)
        else
          bd11 (fX1_remember ps_known ps_r0 ps_r1 ps_r2 ps_r3 ps_many ps_sets ps_chalk ps_wet ps_harvest ps_draw ng_many ng_sets ng_chalk ng_wet ng_harvest ng_draw) fun x21 f22 f23 f24 f25 f26 f27 f28 f29 f30 f31 =>
          if i2 = 0 then
            some ((x11 ^^^ ((1 : Int32) <<< (i1 &&& 31))), (x11 ^^^ ((1 : Int32) <<< (i1 &&& 31))), ng_harvest, x21, f22, f23, f24, f25, f26, f27, f28, f29, f30, f31)
          else
            some ((x11 ^^^ ((1 : Int32) <<< (i1 &&& 31))), ng_wet, (x11 ^^^ ((1 : Int32) <<< (i1 &&& 31))), x21, f22, f23, f24, f25, f26, f27, f28, f29, f30, f31)
def fX5_drift_L14 (i1 : Int32) (ng_harvest : Int32) (ng_wet : Int32) (nw_fewest : Int32) (nw_kinds : Nat → Int32) (nw_loves : Nat → Int32) (nw_people : Int32) : Nat → Int32 → (Nat → Int32) → Int32 → (Nat → Int32) → (Nat → Int32) → (Nat → Nat → Int32) → (Nat → Int32) → (Nat → Int32) → Int32 → (Nat → Nat → Int32) → (Nat → Nat) → (Nat → Nat) → (Nat → Nat) → (Nat → Nat) → (Nat → Nat → Int32) → (Nat → Int32) → Option ((Nat → Int32) × (Nat → Int32) × (Nat → Int32) × Int32 × Int32 × (Nat → Nat) × (Nat → Nat) × (Nat → Nat) × (Nat → Nat) × (Nat → Nat → Int32) × (Nat → Nat → Int32) × (Nat → Nat → Int32) × (Nat → Int32) × (Nat → Int32) × (Nat → Int32))
  | 0, _, _, _, _, _, _, _, _, _, _, _, _, _, _, _, _ => none
  | n + 1, v56, g57, v58, g59, g60, g61, g62, g63, v64, g65, g66, g67, g68, g69, g70, g71 =>
    if i1 ≤ v56 then
      some (g59, g60, g57, v58, v64, g66, g67, g68, g69, g65, g70, g61, g71, g63, g62)
    else
      bd11 (fX1_remember v64 g66 g67 g68 g69 g65 g70 g61 g71 g63 g62 g59 g60 g57 ng_wet ng_harvest v58) fun x91 f92 f93 f94 f95 f96 f97 f98 f99 f100 f101 =>
      bd4 (fX4_driftOnce nw_people nw_fewest nw_kinds nw_loves g59 g60 g57 ng_wet ng_harvest v58) fun f103 f104 f105 x106 =>
      fX5_drift_L14 i1 ng_harvest ng_wet nw_fewest nw_kinds nw_loves nw_people n (v56 + 1) f105 x106 f103 f104 f98 f101 f100 x91 f96 f92 f93 f94 f95 f97 f99
def fX5_drift (nw_people : Int32) (nw_fewest : Int32) (nw_kinds : Nat → Int32) (nw_loves : Nat → Int32) (ng_many : Nat → Int32) (ng_sets : Nat → Int32) (ng_chalk : Nat → Int32) (ng_wet : Int32) (ng_harvest : Int32) (ng_draw : Int32) (ps_known : Int32) (ps_r0 : Nat → Nat) (ps_r1 : Nat → Nat) (ps_r2 : Nat → Nat) (ps_r3 : Nat → Nat) (ps_many : Nat → Nat → Int32) (ps_sets : Nat → Nat → Int32) (ps_chalk : Nat → Nat → Int32) (ps_wet : Nat → Int32) (ps_harvest : Nat → Int32) (ps_draw : Nat → Int32) (i1 : Int32) : Option (Int32 × (Nat → Int32) × (Nat → Int32) × (Nat → Int32) × Int32 × Int32 × (Nat → Nat) × (Nat → Nat) × (Nat → Nat) × (Nat → Nat) × (Nat → Nat → Int32) × (Nat → Nat → Int32) × (Nat → Nat → Int32) × (Nat → Int32) × (Nat → Int32) × (Nat → Int32)) :=
  bd1 (fX5_isWithin i1 1 40) fun r1 =>
  if r1 = 0 then
    some ((-1), ng_many, ng_sets, ng_chalk, ng_draw, ps_known, ps_r0, ps_r1, ps_r2, ps_r3, ps_many, ps_sets, ps_chalk, ps_wet, ps_harvest, ps_draw)
  else
    bd15 (fX5_drift_L14 i1 ng_harvest ng_wet nw_fewest nw_kinds nw_loves nw_people fl 0 ng_chalk ng_draw ng_many ng_sets ps_chalk ps_draw ps_harvest ps_known ps_many ps_r0 ps_r1 ps_r2 ps_r3 ps_sets ps_wet) fun q75 q76 q77 o78 o79 q80 q81 q82 q83 q84 q85 q86 q87 q88 q89 =>
    bd1 (fX4_worthOfAll nw_people nw_kinds nw_loves q76 ng_wet ng_harvest) fun r108 =>
    some (r108, q75, q76, q77, o78, o79, q80, q81, q82, q83, q84, q85, q86, q87, q88, q89)
theorem cal_X5_person : CalV yX5_person cX5_person 2 (some .int) RX5 1 := ⟨t_213, t_211, t_212, t_37, by decide +kernel⟩
set_option maxHeartbeats 4000000 in
set_option maxRecDepth 100000 in
theorem cX5_person_ok (l : Launch) (d : va_G) (cy : Nat → ClassId) (xx0 nw0 nw1 nw2 ng0 ng1 ng2 ng3 ps0 ps1 kp0 kq0 tr0 tp0 hs0 : Nat) (xx_isKept : Int32) (nw_people : Int32) (nw_fewest : Int32) (nw_kinds : Nat → Int32) (nw_loves : Nat → Int32) (ng_many : Nat → Int32) (ng_sets : Nat → Int32) (ng_chalk : Nat → Int32) (ng_wet : Int32) (ng_harvest : Int32) (ng_draw : Int32) (ps_known : Int32) (ps_r0 : Nat → Nat) (ps_r1 : Nat → Nat) (ps_r2 : Nat → Nat) (ps_r3 : Nat → Nat) (ps_many : Nat → Nat → Int32) (ps_sets : Nat → Nat → Int32) (ps_chalk : Nat → Nat → Int32) (ps_wet : Nat → Int32) (ps_harvest : Nat → Int32) (ps_draw : Nat → Int32) (i1 : Int32) (r : Int32) (nw_people_r : Int32) (nw_kinds_r : Nat → Int32) (nw_loves_r : Nat → Int32) (ng_many_r : Nat → Int32) (ng_sets_r : Nat → Int32) (ng_chalk_r : Nat → Int32) (ps_known_r : Int32) (h0 : fX5_person nw_people nw_kinds nw_loves ng_many ng_sets ng_chalk ps_known i1 = some (r, nw_people_r, nw_kinds_r, nw_loves_r, ng_many_r, ng_sets_r, ng_chalk_r, ps_known_r)) : CI l yX5_person cX5_person 2 (some .int) 2 48 d cy [.ref xx0, .int i1] (List.flatten [wX cy xx0 nw0 ps0 kp0 kq0 tr0 tp0 hs0 xx_isKept, wT cy nw0 nw1 nw2 ng0 nw_people nw_fewest nw_kinds nw_loves, wG cy ng0 ng1 ng2 ng3 ng_many ng_sets ng_chalk ng_wet ng_harvest ng_draw, wP cy ps0 ps1 ps_known ps_r0 ps_r1 ps_r2 ps_r3 ps_many ps_sets ps_chalk ps_wet ps_harvest ps_draw]) (List.flatten [wX cy xx0 nw0 ps0 kp0 kq0 tr0 tp0 hs0 xx_isKept, wT cy nw0 nw1 nw2 ng0 nw_people_r nw_fewest nw_kinds_r nw_loves_r, wG cy ng0 ng1 ng2 ng3 ng_many_r ng_sets_r ng_chalk_r ng_wet ng_harvest ng_draw, wP cy ps0 ps1 ps_known_r ps_r0 ps_r1 ps_r2 ps_r3 ps_many ps_sets ps_chalk ps_wet ps_harvest ps_draw]) r := by
  refine CI.of (by decide) (Nat.le_of_ble_eq_true rfl) ?_
  intro p e s m args below meth c A ls Q F hret hw hl
  have hx := F.1
  have hb := F.2.1
  have hl : lv_has ls 2 [(0, .ref xx0), (1, .int i1)] := hl
  rw [fX5_person] at h0
  refine lv_iload_n hx hb dX5_person_0 rfl (lv_at hl 1 rfl) ?_
  refine lv_iconst (v := 0) hx hb dX5_person_1 (by decide) ?_
  refine lv_iconst (v := 4) hx hb dX5_person_2 (by decide) ?_
  obtain ⟨r1, k2, h15⟩ := ob1 h0
  clear h0
  refine g_si F (cX5_isWithin_ok l d cy i1 0 4 r1 k2) cal_X5_isWithin t_214 rfl ⟨by decide, by decide⟩ hw (w' := List.flatten [wX cy xx0 nw0 ps0 kp0 kq0 tr0 tp0 hs0 xx_isKept, wT cy nw0 nw1 nw2 ng0 nw_people nw_fewest nw_kinds nw_loves, wG cy ng0 ng1 ng2 ng3 ng_many ng_sets ng_chalk ng_wet ng_harvest ng_draw, wP cy ps0 ps1 ps_known ps_r0 ps_r1 ps_r2 ps_r3 ps_many ps_sets ps_chalk ps_wet ps_harvest ps_draw]) Cut.nil hl.1 (Nat.le_of_ble_eq_true rfl) rfl dX5_person_3 (fun H locs hw => ?_)
  refine lv_if_ne (tgt := 11) hx hb dX5_person_6 (by decide) (fun c3 => ?_) (fun c3 => ?_)
  · rw [if_neg c3] at h15
    refine lv_aload_n hx hb dX5_person_11 rfl (lv_at hl 0 rfl) ?_
    refine g_get F inG5 hw 0 rfl rfl 0 (by decide) t_185 (fun _ h9 => h9) rfl dX5_person_12 ?_
    refine g_get F inG4 hw 1 rfl rfl 0 (by decide) t_105 (fun _ h9 => h9) rfl dX5_person_15 ?_
    refine lv_bipush (v := 6) hx hb dX5_person_18 (by decide) ?_
    refine lv_icmp_lt (tgt := 26) hx hb dX5_person_20 (by decide) (fun c4 => ?_) (fun c4 => ?_)
    · rw [if_pos c4] at h15
      refine lv_aload_n hx hb dX5_person_26 rfl (lv_at hl 0 rfl) ?_
      refine g_get F inG5 hw 0 rfl rfl 1 (by decide) t_186 (fun _ h9 => h9) rfl dX5_person_27 ?_
      obtain ⟨x5, k6, h16⟩ := ob1 h15
      clear h15
      refine g_vv F (cX1_forget_ok l d cy ps0 ps1 ps_known ps_r0 ps_r1 ps_r2 ps_r3 ps_many ps_sets ps_chalk ps_wet ps_harvest ps_draw x5 k6) cal_X1_forget t_217 rfl ⟨by decide, by decide⟩ hw (w' := List.flatten [wX cy xx0 nw0 ps0 kp0 kq0 tr0 tp0 hs0 xx_isKept, wT cy nw0 nw1 nw2 ng0 nw_people nw_fewest nw_kinds nw_loves, wG cy ng0 ng1 ng2 ng3 ng_many ng_sets ng_chalk ng_wet ng_harvest ng_draw, wP cy ps0 ps1 x5 ps_r0 ps_r1 ps_r2 ps_r3 ps_many ps_sets ps_chalk ps_wet ps_harvest ps_draw]) (SCut.cut (SCut.one (SCut.skip (SCut.skip (SCut.skip (SCut.take SCut.rf SCut.none)))))) 0 1 rfl rfl hl.1 (Nat.le_of_ble_eq_true rfl) rfl dX5_person_30 (fun H locs hw => ?_)
      refine lv_aload_n hx hb dX5_person_33 rfl (lv_at hl 0 rfl) ?_
      refine g_get F inG5 hw 0 rfl rfl 0 (by decide) t_185 (fun _ h9 => h9) rfl dX5_person_34 ?_
      refine lv_iload_n hx hb dX5_person_37 rfl (lv_at hl 1 rfl) ?_
      refine lv_bipush (v := 50) hx hb dX5_person_38 (by decide) ?_
      obtain ⟨r7, x8, f9, f10, f11, f12, f13, k14, h17⟩ := ob7 h16
      clear h16
      refine g_vi F (cX4_settle_ok l d cy nw0 nw1 nw2 ng0 ng1 ng2 ng3 nw_people nw_fewest nw_kinds nw_loves ng_many ng_sets ng_chalk ng_wet ng_harvest ng_draw i1 50 r7 x8 f9 f10 f11 f12 f13 k14) cal_X4_settle t_221 rfl ⟨by decide, by decide⟩ hw (w' := List.flatten [wX cy xx0 nw0 ps0 kp0 kq0 tr0 tp0 hs0 xx_isKept, wT cy nw0 nw1 nw2 ng0 x8 nw_fewest f9 f10, wG cy ng0 ng1 ng2 ng3 f11 f12 f13 ng_wet ng_harvest ng_draw, wP cy ps0 ps1 x5 ps_r0 ps_r1 ps_r2 ps_r3 ps_many ps_sets ps_chalk ps_wet ps_harvest ps_draw]) (SCut.cut (SCut.skip (SCut.take SCut.rf (SCut.take SCut.rf (SCut.skip SCut.none))))) 0 4 rfl rfl hl.1 (Nat.le_of_ble_eq_true rfl) rfl dX5_person_40 (fun H locs hw => ?_)
      obtain ⟨rfl, rfl, rfl, rfl, rfl, rfl, rfl, rfl⟩ := inj8 h17
      exact hret _ _ _ _ hw dX5_person_43
    · rw [if_neg c4] at h15
      refine lv_bipush (v := (-3)) hx hb dX5_person_23 (by decide) ?_
      obtain ⟨rfl, rfl, rfl, rfl, rfl, rfl, rfl, rfl⟩ := inj8 h15
      exact hret _ _ _ _ hw dX5_person_25
  · rw [if_pos c3] at h15
    refine lv_iconst (v := (-1)) hx hb dX5_person_9 (by decide) ?_
    obtain ⟨rfl, rfl, rfl, rfl, rfl, rfl, rfl, rfl⟩ := inj8 h15
    exact hret _ _ _ _ hw dX5_person_10
theorem cal_X5_love : CalV yX5_love cX5_love 4 (some .int) RX5 2 := ⟨t_232, t_230, t_231, t_37, by decide +kernel⟩
set_option maxHeartbeats 4000000 in
set_option maxRecDepth 100000 in
theorem cX5_love_ok (l : Launch) (d : va_G) (cy : Nat → ClassId) (xx0 nw0 nw1 nw2 ng0 ng1 ng2 ng3 ps0 kp0 kq0 tr0 tp0 hs0 : Nat) (xx_isKept : Int32) (nw_people : Int32) (nw_fewest : Int32) (nw_kinds : Nat → Int32) (nw_loves : Nat → Int32) (ng_many : Nat → Int32) (ng_sets : Nat → Int32) (ng_chalk : Nat → Int32) (ng_wet : Int32) (ng_harvest : Int32) (ng_draw : Int32) (i1 : Int32) (i2 : Int32) (r : Int32) (nw_loves_r : Nat → Int32) (h0 : fX5_love nw_people nw_loves i1 i2 = some (r, nw_loves_r)) : CI l yX5_love cX5_love 4 (some .int) 1 21 d cy [.ref xx0, .int i1, .int i2] (List.flatten [wX cy xx0 nw0 ps0 kp0 kq0 tr0 tp0 hs0 xx_isKept, wT cy nw0 nw1 nw2 ng0 nw_people nw_fewest nw_kinds nw_loves, wG cy ng0 ng1 ng2 ng3 ng_many ng_sets ng_chalk ng_wet ng_harvest ng_draw]) (List.flatten [wX cy xx0 nw0 ps0 kp0 kq0 tr0 tp0 hs0 xx_isKept, wT cy nw0 nw1 nw2 ng0 nw_people nw_fewest nw_kinds nw_loves_r, wG cy ng0 ng1 ng2 ng3 ng_many ng_sets ng_chalk ng_wet ng_harvest ng_draw]) r := by
  refine CI.of (by decide) (Nat.le_of_ble_eq_true rfl) ?_
  intro p e s m args below meth c A ls Q F hret hw hl
  have hx := F.1
  have hb := F.2.1
  have hl : lv_has ls 4 [(0, .ref xx0), (1, .int i1), (2, .int i2)] := hl
  rw [fX5_love] at h0
  refine lv_aload_n hx hb dX5_love_0 rfl (lv_at hl 0 rfl) ?_
  refine g_get F inG5 hw 0 rfl rfl 0 (by decide) t_185 (fun _ h9 => h9) rfl dX5_love_1 ?_
  refine lv_iload_n hx hb dX5_love_4 rfl (lv_at hl 1 rfl) ?_
  obtain ⟨r1, k2, h9⟩ := ob1 h0
  clear h0
  refine g_vi F (cX4_isOne_ok l d cy nw0 nw1 nw2 ng0 ng1 ng2 ng3 nw_people nw_fewest nw_kinds nw_loves ng_many ng_sets ng_chalk ng_wet ng_harvest ng_draw i1 r1 k2) cal_X4_isOne t_233 rfl ⟨by decide, by decide⟩ hw (w' := List.flatten [wX cy xx0 nw0 ps0 kp0 kq0 tr0 tp0 hs0 xx_isKept, wT cy nw0 nw1 nw2 ng0 nw_people nw_fewest nw_kinds nw_loves, wG cy ng0 ng1 ng2 ng3 ng_many ng_sets ng_chalk ng_wet ng_harvest ng_draw]) (SCut.cut (SCut.skip (SCut.take SCut.rf (SCut.take SCut.rf SCut.none)))) 0 4 rfl rfl hl.1 (Nat.le_of_ble_eq_true rfl) rfl dX5_love_5 (fun H locs hw => ?_)
  refine lv_if_eq (tgt := 22) hx hb dX5_love_8 (by decide) (fun c3 => ?_) (fun c3 => ?_)
  · rw [if_pos c3] at h9
    refine lv_iconst (v := (-1)) hx hb dX5_love_22 (by decide) ?_
    obtain ⟨rfl, rfl⟩ := inj2 h9
    exact hret _ _ _ _ hw dX5_love_23
  · rw [if_neg c3] at h9
    refine lv_aload_n hx hb dX5_love_11 rfl (lv_at hl 0 rfl) ?_
    refine g_get F inG5 hw 0 rfl rfl 0 (by decide) t_185 (fun _ h9 => h9) rfl dX5_love_12 ?_
    refine lv_iload_n hx hb dX5_love_15 rfl (lv_at hl 2 rfl) ?_
    obtain ⟨r4, k5, h10⟩ := ob1 h9
    clear h9
    refine g_vi F (cX4_isOne_ok l d cy nw0 nw1 nw2 ng0 ng1 ng2 ng3 nw_people nw_fewest nw_kinds nw_loves ng_many ng_sets ng_chalk ng_wet ng_harvest ng_draw i2 r4 k5) cal_X4_isOne t_233 rfl ⟨by decide, by decide⟩ hw (w' := List.flatten [wX cy xx0 nw0 ps0 kp0 kq0 tr0 tp0 hs0 xx_isKept, wT cy nw0 nw1 nw2 ng0 nw_people nw_fewest nw_kinds nw_loves, wG cy ng0 ng1 ng2 ng3 ng_many ng_sets ng_chalk ng_wet ng_harvest ng_draw]) (SCut.cut (SCut.skip (SCut.take SCut.rf (SCut.take SCut.rf SCut.none)))) 0 4 rfl rfl hl.1 (Nat.le_of_ble_eq_true rfl) rfl dX5_love_16 (fun H locs hw => ?_)
    refine lv_if_ne (tgt := 24) hx hb dX5_love_19 (by decide) (fun c6 => ?_) (fun c6 => ?_)
    · rw [if_neg c6] at h10
      refine lv_aload_n hx hb dX5_love_24 rfl (lv_at hl 0 rfl) ?_
      refine g_get F inG5 hw 0 rfl rfl 0 (by decide) t_185 (fun _ h9 => h9) rfl dX5_love_25 ?_
      refine g_get F inG4 hw 1 rfl rfl 3 (by decide) t_112 (fun _ h9 => h9) rfl dX5_love_28 ?_
      refine lv_iload_n hx hb dX5_love_31 rfl (lv_at hl 1 rfl) ?_
      obtain ⟨j7, k8, h11⟩ := ob1 h10
      clear h10
      refine g_iald F hw 3 rfl k8 dX5_love_32 ?_
      refine lv_istore_n (lv' := [(3, .int (nw_loves j7)), (0, .ref xx0), (1, .int i1), (2, .int i2)]) hx hb dX5_love_33 rfl hl (by decide) rfl (fun ls hl => ?_)
      refine lv_aload_n hx hb dX5_love_34 rfl (lv_at hl 1 rfl) ?_
      refine g_get F inG5 hw 0 rfl rfl 0 (by decide) t_185 (fun _ h9 => h9) rfl dX5_love_35 ?_
      refine g_get F inG4 hw 1 rfl rfl 3 (by decide) t_112 (fun _ h9 => h9) rfl dX5_love_38 ?_
      refine lv_iload_n hx hb dX5_love_41 rfl (lv_at hl 2 rfl) ?_
      refine lv_iload_n hx hb dX5_love_42 rfl (lv_at hl 3 rfl) ?_
      refine g_iast F hw 3 rfl k8 dX5_love_43 (w' := List.flatten [wX cy xx0 nw0 ps0 kp0 kq0 tr0 tp0 hs0 xx_isKept, wT cy nw0 nw1 nw2 ng0 nw_people nw_fewest nw_kinds (upd nw_loves j7 i2), wG cy ng0 ng1 ng2 ng3 ng_many ng_sets ng_chalk ng_wet ng_harvest ng_draw]) rfl (fun H locs hw => ?_)
      refine lv_iload_n hx hb dX5_love_44 rfl (lv_at hl 0 rfl) ?_
      obtain ⟨rfl, rfl⟩ := inj2 h11
      exact hret _ _ _ _ hw dX5_love_45
    · rw [if_pos c6] at h10
      refine lv_iconst (v := (-1)) hx hb dX5_love_22 (by decide) ?_
      obtain ⟨rfl, rfl⟩ := inj2 h10
      exact hret _ _ _ _ hw dX5_love_23
theorem cal_X5_least : CalV yX5_least cX5_least 3 (some .int) RX5 1 := ⟨t_240, t_238, t_239, t_37, by decide +kernel⟩
set_option maxHeartbeats 4000000 in
set_option maxRecDepth 100000 in
theorem cX5_least_ok (l : Launch) (d : va_G) (cy : Nat → ClassId) (xx0 nw0 nw1 nw2 ng0 ng1 ng2 ng3 ps0 kp0 kq0 tr0 tp0 hs0 : Nat) (xx_isKept : Int32) (nw_people : Int32) (nw_fewest : Int32) (nw_kinds : Nat → Int32) (nw_loves : Nat → Int32) (ng_many : Nat → Int32) (ng_sets : Nat → Int32) (ng_chalk : Nat → Int32) (ng_wet : Int32) (ng_harvest : Int32) (ng_draw : Int32) (i1 : Int32) (r : Int32) (nw_fewest_r : Int32) (h0 : fX5_least nw_fewest i1 = some (r, nw_fewest_r)) : CI l yX5_least cX5_least 3 (some .int) 1 22 d cy [.ref xx0, .int i1] (List.flatten [wX cy xx0 nw0 ps0 kp0 kq0 tr0 tp0 hs0 xx_isKept, wT cy nw0 nw1 nw2 ng0 nw_people nw_fewest nw_kinds nw_loves, wG cy ng0 ng1 ng2 ng3 ng_many ng_sets ng_chalk ng_wet ng_harvest ng_draw]) (List.flatten [wX cy xx0 nw0 ps0 kp0 kq0 tr0 tp0 hs0 xx_isKept, wT cy nw0 nw1 nw2 ng0 nw_people nw_fewest_r nw_kinds nw_loves, wG cy ng0 ng1 ng2 ng3 ng_many ng_sets ng_chalk ng_wet ng_harvest ng_draw]) r := by
  refine CI.of (by decide) (Nat.le_of_ble_eq_true rfl) ?_
  intro p e s m args below meth c A ls Q F hret hw hl
  have hx := F.1
  have hb := F.2.1
  have hl : lv_has ls 3 [(0, .ref xx0), (1, .int i1)] := hl
  rw [fX5_least] at h0
  refine lv_iload_n hx hb dX5_least_0 rfl (lv_at hl 1 rfl) ?_
  refine lv_iconst (v := 0) hx hb dX5_least_1 (by decide) ?_
  refine lv_bipush (v := 12) hx hb dX5_least_2 (by decide) ?_
  obtain ⟨r1, k2, h4⟩ := ob1 h0
  clear h0
  refine g_si F (cX5_isWithin_ok l d cy i1 0 12 r1 k2) cal_X5_isWithin t_214 rfl ⟨by decide, by decide⟩ hw (w' := List.flatten [wX cy xx0 nw0 ps0 kp0 kq0 tr0 tp0 hs0 xx_isKept, wT cy nw0 nw1 nw2 ng0 nw_people nw_fewest nw_kinds nw_loves, wG cy ng0 ng1 ng2 ng3 ng_many ng_sets ng_chalk ng_wet ng_harvest ng_draw]) Cut.nil hl.1 (Nat.le_of_ble_eq_true rfl) rfl dX5_least_4 (fun H locs hw => ?_)
  refine lv_if_ne (tgt := 12) hx hb dX5_least_7 (by decide) (fun c3 => ?_) (fun c3 => ?_)
  · rw [if_neg c3] at h4
    refine lv_aload_n hx hb dX5_least_12 rfl (lv_at hl 0 rfl) ?_
    refine g_get F inG5 hw 0 rfl rfl 0 (by decide) t_185 (fun _ h9 => h9) rfl dX5_least_13 ?_
    refine g_get F inG4 hw 1 rfl rfl 1 (by decide) t_108 (fun _ h9 => h9) rfl dX5_least_16 ?_
    refine lv_istore_n (lv' := [(2, .int nw_fewest), (0, .ref xx0), (1, .int i1)]) hx hb dX5_least_19 rfl hl (by decide) rfl (fun ls hl => ?_)
    refine lv_aload_n hx hb dX5_least_20 rfl (lv_at hl 1 rfl) ?_
    refine g_get F inG5 hw 0 rfl rfl 0 (by decide) t_185 (fun _ h9 => h9) rfl dX5_least_21 ?_
    refine lv_iload_n hx hb dX5_least_24 rfl (lv_at hl 2 rfl) ?_
    refine g_put F inG4 tyX4 tyX4_ok nmX4 hw 1 rfl rfl 1 (by decide) t_108 (fun _ h9 => h9) rfl (ty := .int) (by decide +kernel) rfl rfl (Nat.le_of_ble_eq_true rfl) dX5_least_25 (w' := List.flatten [wX cy xx0 nw0 ps0 kp0 kq0 tr0 tp0 hs0 xx_isKept, wT cy nw0 nw1 nw2 ng0 nw_people i1 nw_kinds nw_loves, wG cy ng0 ng1 ng2 ng3 ng_many ng_sets ng_chalk ng_wet ng_harvest ng_draw]) rfl (fun H locs hw => ?_)
    refine lv_iload_n hx hb dX5_least_28 rfl (lv_at hl 0 rfl) ?_
    obtain ⟨rfl, rfl⟩ := inj2 h4
    exact hret _ _ _ _ hw dX5_least_29
  · rw [if_pos c3] at h4
    refine lv_iconst (v := (-1)) hx hb dX5_least_10 (by decide) ?_
    obtain ⟨rfl, rfl⟩ := inj2 h4
    exact hret _ _ _ _ hw dX5_least_11
theorem cal_X5_of : CalV yX5_of cX5_of 3 (some .int) RX5 2 := ⟨t_244, t_242, t_243, t_37, by decide +kernel⟩
set_option maxHeartbeats 4000000 in
set_option maxRecDepth 100000 in
theorem cX5_of_ok (l : Launch) (d : va_G) (cy : Nat → ClassId) (xx0 nw0 nw1 nw2 ng0 ng1 ng2 ng3 ps0 kp0 kq0 tr0 tp0 hs0 : Nat) (xx_isKept : Int32) (nw_people : Int32) (nw_fewest : Int32) (nw_kinds : Nat → Int32) (nw_loves : Nat → Int32) (ng_many : Nat → Int32) (ng_sets : Nat → Int32) (ng_chalk : Nat → Int32) (ng_wet : Int32) (ng_harvest : Int32) (ng_draw : Int32) (i1 : Int32) (i2 : Int32) (r : Int32) (h0 : fX5_of nw_people nw_kinds nw_loves ng_many ng_sets ng_chalk ng_wet ng_harvest i1 i2 = some (r)) : CI l yX5_of cX5_of 3 (some .int) 4 96 d cy [.ref xx0, .int i1, .int i2] (List.flatten [wX cy xx0 nw0 ps0 kp0 kq0 tr0 tp0 hs0 xx_isKept, wT cy nw0 nw1 nw2 ng0 nw_people nw_fewest nw_kinds nw_loves, wG cy ng0 ng1 ng2 ng3 ng_many ng_sets ng_chalk ng_wet ng_harvest ng_draw]) (List.flatten [wX cy xx0 nw0 ps0 kp0 kq0 tr0 tp0 hs0 xx_isKept, wT cy nw0 nw1 nw2 ng0 nw_people nw_fewest nw_kinds nw_loves, wG cy ng0 ng1 ng2 ng3 ng_many ng_sets ng_chalk ng_wet ng_harvest ng_draw]) r := by
  refine CI.of (by decide) (Nat.le_of_ble_eq_true rfl) ?_
  intro p e s m args below meth c A ls Q F hret hw hl
  have hx := F.1
  have hb := F.2.1
  have hl : lv_has ls 3 [(0, .ref xx0), (1, .int i1), (2, .int i2)] := hl
  rw [fX5_of] at h0
  refine lv_aload_n hx hb dX5_of_0 rfl (lv_at hl 0 rfl) ?_
  refine g_get F inG5 hw 0 rfl rfl 0 (by decide) t_185 (fun _ h9 => h9) rfl dX5_of_1 ?_
  refine lv_iload_n hx hb dX5_of_4 rfl (lv_at hl 1 rfl) ?_
  obtain ⟨r1, k2, h16⟩ := ob1 h0
  clear h0
  refine g_vi F (cX4_isOne_ok l d cy nw0 nw1 nw2 ng0 ng1 ng2 ng3 nw_people nw_fewest nw_kinds nw_loves ng_many ng_sets ng_chalk ng_wet ng_harvest ng_draw i1 r1 k2) cal_X4_isOne t_233 rfl ⟨by decide, by decide⟩ hw (w' := List.flatten [wX cy xx0 nw0 ps0 kp0 kq0 tr0 tp0 hs0 xx_isKept, wT cy nw0 nw1 nw2 ng0 nw_people nw_fewest nw_kinds nw_loves, wG cy ng0 ng1 ng2 ng3 ng_many ng_sets ng_chalk ng_wet ng_harvest ng_draw]) (SCut.cut (SCut.skip (SCut.take SCut.rf (SCut.take SCut.rf SCut.none)))) 0 4 rfl rfl hl.1 (Nat.le_of_ble_eq_true rfl) rfl dX5_of_5 (fun H locs hw => ?_)
  refine lv_if_ne (tgt := 13) hx hb dX5_of_8 (by decide) (fun c3 => ?_) (fun c3 => ?_)
  · rw [if_neg c3] at h16
    refine lv_iload_n hx hb dX5_of_13 rfl (lv_at hl 2 rfl) ?_
    by_cases c17 : i2 = 0
    · rw [if_pos c17] at h16
      refine lv_tableIn (off := 38) (tgt := 52) hx hb dX5_of_14 (by rw [c17]; decide) (by rw [c17]; decide) (by rw [c17]; rfl) (by decide) ?_
      refine lv_aload_n hx hb dX5_of_52 rfl (lv_at hl 0 rfl) ?_
      refine g_get F inG5 hw 0 rfl rfl 0 (by decide) t_185 (fun _ h9 => h9) rfl dX5_of_53 ?_
      refine g_get F inG4 hw 1 rfl rfl 2 (by decide) t_110 (fun _ h9 => h9) rfl dX5_of_56 ?_
      refine lv_iload_n hx hb dX5_of_59 rfl (lv_at hl 1 rfl) ?_
      obtain ⟨j4, k5, h18⟩ := ob1 h16
      clear h16
      refine g_iald F hw 2 rfl k5 dX5_of_60 ?_
      obtain rfl := inj1 h18
      exact hret _ _ _ _ hw dX5_of_61
    rw [if_neg c17] at h16
    by_cases c19 : i2 = 1
    · rw [if_pos c19] at h16
      refine lv_tableIn (off := 48) (tgt := 62) hx hb dX5_of_14 (by rw [c19]; decide) (by rw [c19]; decide) (by rw [c19]; rfl) (by decide) ?_
      refine lv_aload_n hx hb dX5_of_62 rfl (lv_at hl 0 rfl) ?_
      refine g_get F inG5 hw 0 rfl rfl 0 (by decide) t_185 (fun _ h9 => h9) rfl dX5_of_63 ?_
      refine g_get F inG4 hw 1 rfl rfl 3 (by decide) t_112 (fun _ h9 => h9) rfl dX5_of_66 ?_
      refine lv_iload_n hx hb dX5_of_69 rfl (lv_at hl 1 rfl) ?_
      obtain ⟨j6, k7, h20⟩ := ob1 h16
      clear h16
      refine g_iald F hw 3 rfl k7 dX5_of_70 ?_
      obtain rfl := inj1 h20
      exact hret _ _ _ _ hw dX5_of_71
    rw [if_neg c19] at h16
    by_cases c21 : i2 = 2
    · rw [if_pos c21] at h16
      refine lv_tableIn (off := 58) (tgt := 72) hx hb dX5_of_14 (by rw [c21]; decide) (by rw [c21]; decide) (by rw [c21]; rfl) (by decide) ?_
      refine lv_aload_n hx hb dX5_of_72 rfl (lv_at hl 0 rfl) ?_
      refine g_get F inG5 hw 0 rfl rfl 0 (by decide) t_185 (fun _ h9 => h9) rfl dX5_of_73 ?_
      refine g_get F inG4 hw 1 rfl rfl 4 (by decide) t_116 (fun _ h9 => h9) rfl dX5_of_76 ?_
      refine g_get F inG0 hw 4 rfl rfl 2 (by decide) t_78 (fun _ h9 => h9) rfl dX5_of_79 ?_
      refine lv_iload_n hx hb dX5_of_82 rfl (lv_at hl 1 rfl) ?_
      obtain ⟨j8, k9, h22⟩ := ob1 h16
      clear h16
      refine g_iald F hw 7 rfl k9 dX5_of_83 ?_
      obtain rfl := inj1 h22
      exact hret _ _ _ _ hw dX5_of_84
    rw [if_neg c21] at h16
    by_cases c23 : i2 = 3
    · rw [if_pos c23] at h16
      refine lv_tableIn (off := 71) (tgt := 85) hx hb dX5_of_14 (by rw [c23]; decide) (by rw [c23]; decide) (by rw [c23]; rfl) (by decide) ?_
      refine lv_aload_n hx hb dX5_of_85 rfl (lv_at hl 0 rfl) ?_
      refine g_get F inG5 hw 0 rfl rfl 0 (by decide) t_185 (fun _ h9 => h9) rfl dX5_of_86 ?_
      refine g_get F inG4 hw 1 rfl rfl 4 (by decide) t_116 (fun _ h9 => h9) rfl dX5_of_89 ?_
      refine g_get F inG0 hw 4 rfl rfl 1 (by decide) t_74 (fun _ h9 => h9) rfl dX5_of_92 ?_
      refine lv_iload_n hx hb dX5_of_95 rfl (lv_at hl 1 rfl) ?_
      obtain ⟨j10, k11, h24⟩ := ob1 h16
      clear h16
      refine g_iald F hw 6 rfl k11 dX5_of_96 ?_
      obtain rfl := inj1 h24
      exact hret _ _ _ _ hw dX5_of_97
    rw [if_neg c23] at h16
    by_cases c25 : i2 = 4
    · rw [if_pos c25] at h16
      refine lv_tableIn (off := 84) (tgt := 98) hx hb dX5_of_14 (by rw [c25]; decide) (by rw [c25]; decide) (by rw [c25]; rfl) (by decide) ?_
      refine lv_aload_n hx hb dX5_of_98 rfl (lv_at hl 0 rfl) ?_
      refine g_get F inG5 hw 0 rfl rfl 0 (by decide) t_185 (fun _ h9 => h9) rfl dX5_of_99 ?_
      refine g_get F inG4 hw 1 rfl rfl 4 (by decide) t_116 (fun _ h9 => h9) rfl dX5_of_102 ?_
      refine lv_iload_n hx hb dX5_of_105 rfl (lv_at hl 1 rfl) ?_
      obtain ⟨r12, k13, h26⟩ := ob1 h16
      clear h16
      refine g_vi F (cX0_manyInAll_ok l d cy ng0 ng1 ng2 ng3 ng_many ng_sets ng_chalk ng_wet ng_harvest ng_draw i1 r12 k13) cal_X0_manyInAll t_245 rfl ⟨by decide, by decide⟩ hw (w' := List.flatten [wX cy xx0 nw0 ps0 kp0 kq0 tr0 tp0 hs0 xx_isKept, wT cy nw0 nw1 nw2 ng0 nw_people nw_fewest nw_kinds nw_loves, wG cy ng0 ng1 ng2 ng3 ng_many ng_sets ng_chalk ng_wet ng_harvest ng_draw]) (SCut.cut (SCut.one (SCut.skip (SCut.skip (SCut.take SCut.rf SCut.none))))) 0 0 rfl rfl hl.1 (Nat.le_of_ble_eq_true rfl) rfl dX5_of_106 (fun H locs hw => ?_)
      obtain rfl := inj1 h26
      exact hret _ _ _ _ hw dX5_of_109
    rw [if_neg c25] at h16
    by_cases c27 : i2 = 5
    · rw [if_pos c27] at h16
      refine lv_tableIn (off := 96) (tgt := 110) hx hb dX5_of_14 (by rw [c27]; decide) (by rw [c27]; decide) (by rw [c27]; rfl) (by decide) ?_
      refine lv_aload_n hx hb dX5_of_110 rfl (lv_at hl 0 rfl) ?_
      refine g_get F inG5 hw 0 rfl rfl 0 (by decide) t_185 (fun _ h9 => h9) rfl dX5_of_111 ?_
      refine lv_iload_n hx hb dX5_of_114 rfl (lv_at hl 1 rfl) ?_
      obtain ⟨r14, k15, h28⟩ := ob1 h16
      clear h16
      refine g_vi F (cX4_worthOf_ok l d cy nw0 nw1 nw2 ng0 ng1 ng2 ng3 nw_people nw_fewest nw_kinds nw_loves ng_many ng_sets ng_chalk ng_wet ng_harvest ng_draw i1 r14 k15) cal_X4_worthOf t_253 rfl ⟨by decide, by decide⟩ hw (w' := List.flatten [wX cy xx0 nw0 ps0 kp0 kq0 tr0 tp0 hs0 xx_isKept, wT cy nw0 nw1 nw2 ng0 nw_people nw_fewest nw_kinds nw_loves, wG cy ng0 ng1 ng2 ng3 ng_many ng_sets ng_chalk ng_wet ng_harvest ng_draw]) (SCut.cut (SCut.skip (SCut.take SCut.rf (SCut.take SCut.rf SCut.none)))) 0 4 rfl rfl hl.1 (Nat.le_of_ble_eq_true rfl) rfl dX5_of_115 (fun H locs hw => ?_)
      obtain rfl := inj1 h28
      exact hret _ _ _ _ hw dX5_of_118
    rw [if_neg c27] at h16
    have nc17 := lv_neT c17 (a := 0) (by decide)
    have nc19 := lv_neT c19 (a := 1) (by decide)
    have nc21 := lv_neT c21 (a := 2) (by decide)
    have nc23 := lv_neT c23 (a := 3) (by decide)
    have nc25 := lv_neT c25 (a := 4) (by decide)
    have nc27 := lv_neT c27 (a := 5) (by decide)
    refine lv_tableOut (tgt := 119) hx hb dX5_of_14 (by omega) (by decide) ?_
    refine lv_iconst (v := (-1)) hx hb dX5_of_119 (by decide) ?_
    obtain rfl := inj1 h16
    exact hret _ _ _ _ hw dX5_of_120
  · rw [if_pos c3] at h16
    refine lv_iconst (v := (-1)) hx hb dX5_of_11 (by decide) ?_
    obtain rfl := inj1 h16
    exact hret _ _ _ _ hw dX5_of_12
theorem cal_X5_has : CalV yX5_has cX5_has 4 (some .int) RX5 3 := ⟨t_274, t_272, t_273, t_37, by decide +kernel⟩
set_option maxHeartbeats 4000000 in
set_option maxRecDepth 100000 in
theorem cX5_has_ok (l : Launch) (d : va_G) (cy : Nat → ClassId) (xx0 nw0 nw1 nw2 ng0 ng1 ng2 ng3 ps0 kp0 kq0 tr0 tp0 hs0 : Nat) (xx_isKept : Int32) (nw_people : Int32) (nw_fewest : Int32) (nw_kinds : Nat → Int32) (nw_loves : Nat → Int32) (ng_many : Nat → Int32) (ng_sets : Nat → Int32) (ng_chalk : Nat → Int32) (ng_wet : Int32) (ng_harvest : Int32) (ng_draw : Int32) (i1 : Int32) (i2 : Int32) (i3 : Int32) (r : Int32) (h0 : fX5_has nw_people nw_kinds nw_loves ng_many ng_sets ng_wet ng_harvest i1 i2 i3 = some (r)) : CI l yX5_has cX5_has 4 (some .int) 3 72 d cy [.ref xx0, .int i1, .int i2, .int i3] (List.flatten [wX cy xx0 nw0 ps0 kp0 kq0 tr0 tp0 hs0 xx_isKept, wT cy nw0 nw1 nw2 ng0 nw_people nw_fewest nw_kinds nw_loves, wG cy ng0 ng1 ng2 ng3 ng_many ng_sets ng_chalk ng_wet ng_harvest ng_draw]) (List.flatten [wX cy xx0 nw0 ps0 kp0 kq0 tr0 tp0 hs0 xx_isKept, wT cy nw0 nw1 nw2 ng0 nw_people nw_fewest nw_kinds nw_loves, wG cy ng0 ng1 ng2 ng3 ng_many ng_sets ng_chalk ng_wet ng_harvest ng_draw]) r := by
  refine CI.of (by decide) (Nat.le_of_ble_eq_true rfl) ?_
  intro p e s m args below meth c A ls Q F hret hw hl
  have hx := F.1
  have hb := F.2.1
  have hl : lv_has ls 4 [(0, .ref xx0), (1, .int i1), (2, .int i2), (3, .int i3)] := hl
  rw [fX5_has] at h0
  refine lv_aload_n hx hb dX5_has_0 rfl (lv_at hl 0 rfl) ?_
  refine g_get F inG5 hw 0 rfl rfl 0 (by decide) t_185 (fun _ h9 => h9) rfl dX5_has_1 ?_
  refine lv_iload_n hx hb dX5_has_4 rfl (lv_at hl 1 rfl) ?_
  obtain ⟨r1, k2, h15⟩ := ob1 h0
  clear h0
  refine g_vi F (cX4_isOne_ok l d cy nw0 nw1 nw2 ng0 ng1 ng2 ng3 nw_people nw_fewest nw_kinds nw_loves ng_many ng_sets ng_chalk ng_wet ng_harvest ng_draw i1 r1 k2) cal_X4_isOne t_233 rfl ⟨by decide, by decide⟩ hw (w' := List.flatten [wX cy xx0 nw0 ps0 kp0 kq0 tr0 tp0 hs0 xx_isKept, wT cy nw0 nw1 nw2 ng0 nw_people nw_fewest nw_kinds nw_loves, wG cy ng0 ng1 ng2 ng3 ng_many ng_sets ng_chalk ng_wet ng_harvest ng_draw]) (SCut.cut (SCut.skip (SCut.take SCut.rf (SCut.take SCut.rf SCut.none)))) 0 4 rfl rfl hl.1 (Nat.le_of_ble_eq_true rfl) rfl dX5_has_5 (fun H locs hw => ?_)
  refine lv_if_eq (tgt := 25) hx hb dX5_has_8 (by decide) (fun c3 => ?_) (fun c3 => ?_)
  · rw [if_pos c3] at h15
    refine lv_iconst (v := (-1)) hx hb dX5_has_25 (by decide) ?_
    obtain rfl := inj1 h15
    exact hret _ _ _ _ hw dX5_has_26
  · rw [if_neg c3] at h15
    refine lv_iload_n hx hb dX5_has_11 rfl (lv_at hl 2 rfl) ?_
    obtain ⟨r4, k5, h16⟩ := ob1 h15
    clear h15
    refine g_si F (cX5_isHalf_ok l d cy i2 r4 k5) cal_X5_isHalf t_275 rfl ⟨by decide, by decide⟩ hw (w' := List.flatten [wX cy xx0 nw0 ps0 kp0 kq0 tr0 tp0 hs0 xx_isKept, wT cy nw0 nw1 nw2 ng0 nw_people nw_fewest nw_kinds nw_loves, wG cy ng0 ng1 ng2 ng3 ng_many ng_sets ng_chalk ng_wet ng_harvest ng_draw]) Cut.nil hl.1 (Nat.le_of_ble_eq_true rfl) rfl dX5_has_12 (fun H locs hw => ?_)
    refine lv_if_eq (tgt := 25) hx hb dX5_has_15 (by decide) (fun c6 => ?_) (fun c6 => ?_)
    · rw [if_pos c6] at h16
      refine lv_iconst (v := (-1)) hx hb dX5_has_25 (by decide) ?_
      obtain rfl := inj1 h16
      exact hret _ _ _ _ hw dX5_has_26
    · rw [if_neg c6] at h16
      refine lv_iload_n hx hb dX5_has_18 rfl (lv_at hl 3 rfl) ?_
      obtain ⟨r7, k8, h17⟩ := ob1 h16
      clear h16
      refine g_si F (cX5_isFlag_ok l d cy i3 r7 k8) cal_X5_isFlag t_278 rfl ⟨by decide, by decide⟩ hw (w' := List.flatten [wX cy xx0 nw0 ps0 kp0 kq0 tr0 tp0 hs0 xx_isKept, wT cy nw0 nw1 nw2 ng0 nw_people nw_fewest nw_kinds nw_loves, wG cy ng0 ng1 ng2 ng3 ng_many ng_sets ng_chalk ng_wet ng_harvest ng_draw]) Cut.nil hl.1 (Nat.le_of_ble_eq_true rfl) rfl dX5_has_19 (fun H locs hw => ?_)
      refine lv_if_ne (tgt := 27) hx hb dX5_has_22 (by decide) (fun c9 => ?_) (fun c9 => ?_)
      · rw [if_neg c9] at h17
        refine lv_iload_n hx hb dX5_has_27 rfl (lv_at hl 3 rfl) ?_
        refine lv_if_ne (tgt := 46) hx hb dX5_has_28 (by decide) (fun c10 => ?_) (fun c10 => ?_)
        · rw [if_neg c10] at h17
          refine lv_aload_n hx hb dX5_has_46 rfl (lv_at hl 0 rfl) ?_
          refine g_get F inG5 hw 0 rfl rfl 0 (by decide) t_185 (fun _ h9 => h9) rfl dX5_has_47 ?_
          refine lv_iload_n hx hb dX5_has_50 rfl (lv_at hl 1 rfl) ?_
          refine lv_iload_n hx hb dX5_has_51 rfl (lv_at hl 2 rfl) ?_
          obtain ⟨r11, k12, h18⟩ := ob1 h17
          clear h17
          refine g_vi F (cX4_worthOfHalf_ok l d cy nw0 nw1 nw2 ng0 ng1 ng2 ng3 nw_people nw_fewest nw_kinds nw_loves ng_many ng_sets ng_chalk ng_wet ng_harvest ng_draw i1 i2 r11 k12) cal_X4_worthOfHalf t_282 rfl ⟨by decide, by decide⟩ hw (w' := List.flatten [wX cy xx0 nw0 ps0 kp0 kq0 tr0 tp0 hs0 xx_isKept, wT cy nw0 nw1 nw2 ng0 nw_people nw_fewest nw_kinds nw_loves, wG cy ng0 ng1 ng2 ng3 ng_many ng_sets ng_chalk ng_wet ng_harvest ng_draw]) (SCut.cut (SCut.skip (SCut.take SCut.rf (SCut.take SCut.rf SCut.none)))) 0 4 rfl rfl hl.1 (Nat.le_of_ble_eq_true rfl) rfl dX5_has_52 (fun H locs hw => ?_)
          obtain rfl := inj1 h18
          exact hret _ _ _ _ hw dX5_has_55
        · rw [if_pos c10] at h17
          refine lv_aload_n hx hb dX5_has_31 rfl (lv_at hl 0 rfl) ?_
          refine g_get F inG5 hw 0 rfl rfl 0 (by decide) t_185 (fun _ h9 => h9) rfl dX5_has_32 ?_
          refine g_get F inG4 hw 1 rfl rfl 4 (by decide) t_116 (fun _ h9 => h9) rfl dX5_has_35 ?_
          refine lv_iload_n hx hb dX5_has_38 rfl (lv_at hl 1 rfl) ?_
          refine lv_iload_n hx hb dX5_has_39 rfl (lv_at hl 2 rfl) ?_
          obtain ⟨r13, k14, h19⟩ := ob1 h17
          clear h17
          refine g_vi F (cX0_manyOf_ok l d cy ng0 ng1 ng2 ng3 ng_many ng_sets ng_chalk ng_wet ng_harvest ng_draw i1 i2 r13 k14) cal_X0_manyOf t_281 rfl ⟨by decide, by decide⟩ hw (w' := List.flatten [wX cy xx0 nw0 ps0 kp0 kq0 tr0 tp0 hs0 xx_isKept, wT cy nw0 nw1 nw2 ng0 nw_people nw_fewest nw_kinds nw_loves, wG cy ng0 ng1 ng2 ng3 ng_many ng_sets ng_chalk ng_wet ng_harvest ng_draw]) (SCut.cut (SCut.one (SCut.skip (SCut.skip (SCut.take SCut.rf SCut.none))))) 0 0 rfl rfl hl.1 (Nat.le_of_ble_eq_true rfl) rfl dX5_has_40 (fun H locs hw => ?_)
          refine lv_goto (tgt := 55) hx hb dX5_has_43 (by decide) ?_
          obtain rfl := inj1 h19
          exact hret _ _ _ _ hw dX5_has_55
      · rw [if_pos c9] at h17
        refine lv_iconst (v := (-1)) hx hb dX5_has_25 (by decide) ?_
        obtain rfl := inj1 h17
        exact hret _ _ _ _ hw dX5_has_26
theorem cal_X5_at : CalV yX5_at cX5_at 3 (some .int) RX5 2 := ⟨t_289, t_287, t_288, t_37, by decide +kernel⟩
set_option maxHeartbeats 4000000 in
set_option maxRecDepth 100000 in
theorem cX5_at_ok (l : Launch) (d : va_G) (cy : Nat → ClassId) (xx0 nw0 nw1 nw2 ng0 ng1 ng2 ng3 ps0 kp0 kq0 tr0 tp0 hs0 : Nat) (xx_isKept : Int32) (nw_people : Int32) (nw_fewest : Int32) (nw_kinds : Nat → Int32) (nw_loves : Nat → Int32) (ng_many : Nat → Int32) (ng_sets : Nat → Int32) (ng_chalk : Nat → Int32) (ng_wet : Int32) (ng_harvest : Int32) (ng_draw : Int32) (i1 : Int32) (i2 : Int32) (r : Int32) (h0 : fX5_at ng_wet ng_harvest i1 i2 = some (r)) : CI l yX5_at cX5_at 3 (some .int) 2 42 d cy [.ref xx0, .int i1, .int i2] (List.flatten [wX cy xx0 nw0 ps0 kp0 kq0 tr0 tp0 hs0 xx_isKept, wT cy nw0 nw1 nw2 ng0 nw_people nw_fewest nw_kinds nw_loves, wG cy ng0 ng1 ng2 ng3 ng_many ng_sets ng_chalk ng_wet ng_harvest ng_draw]) (List.flatten [wX cy xx0 nw0 ps0 kp0 kq0 tr0 tp0 hs0 xx_isKept, wT cy nw0 nw1 nw2 ng0 nw_people nw_fewest nw_kinds nw_loves, wG cy ng0 ng1 ng2 ng3 ng_many ng_sets ng_chalk ng_wet ng_harvest ng_draw]) r := by
  refine CI.of (by decide) (Nat.le_of_ble_eq_true rfl) ?_
  intro p e s m args below meth c A ls Q F hret hw hl
  have hx := F.1
  have hb := F.2.1
  have hl : lv_has ls 3 [(0, .ref xx0), (1, .int i1), (2, .int i2)] := hl
  rw [fX5_at] at h0
  refine lv_iload_n hx hb dX5_at_0 rfl (lv_at hl 1 rfl) ?_
  obtain ⟨r1, k2, h14⟩ := ob1 h0
  clear h0
  refine g_si F (cX5_isSunday_ok l d cy i1 r1 k2) cal_X5_isSunday t_290 rfl ⟨by decide, by decide⟩ hw (w' := List.flatten [wX cy xx0 nw0 ps0 kp0 kq0 tr0 tp0 hs0 xx_isKept, wT cy nw0 nw1 nw2 ng0 nw_people nw_fewest nw_kinds nw_loves, wG cy ng0 ng1 ng2 ng3 ng_many ng_sets ng_chalk ng_wet ng_harvest ng_draw]) Cut.nil hl.1 (Nat.le_of_ble_eq_true rfl) rfl dX5_at_1 (fun H locs hw => ?_)
  refine lv_if_eq (tgt := 14) hx hb dX5_at_4 (by decide) (fun c3 => ?_) (fun c3 => ?_)
  · rw [if_pos c3] at h14
    refine lv_iconst (v := (-1)) hx hb dX5_at_14 (by decide) ?_
    obtain rfl := inj1 h14
    exact hret _ _ _ _ hw dX5_at_15
  · rw [if_neg c3] at h14
    refine lv_iload_n hx hb dX5_at_7 rfl (lv_at hl 2 rfl) ?_
    obtain ⟨r4, k5, h15⟩ := ob1 h14
    clear h14
    refine g_si F (cX5_isFlag_ok l d cy i2 r4 k5) cal_X5_isFlag t_278 rfl ⟨by decide, by decide⟩ hw (w' := List.flatten [wX cy xx0 nw0 ps0 kp0 kq0 tr0 tp0 hs0 xx_isKept, wT cy nw0 nw1 nw2 ng0 nw_people nw_fewest nw_kinds nw_loves, wG cy ng0 ng1 ng2 ng3 ng_many ng_sets ng_chalk ng_wet ng_harvest ng_draw]) Cut.nil hl.1 (Nat.le_of_ble_eq_true rfl) rfl dX5_at_8 (fun H locs hw => ?_)
    refine lv_if_ne (tgt := 16) hx hb dX5_at_11 (by decide) (fun c6 => ?_) (fun c6 => ?_)
    · rw [if_neg c6] at h15
      refine lv_iload_n hx hb dX5_at_16 rfl (lv_at hl 2 rfl) ?_
      obtain ⟨x8, h16, h17⟩ := ob1 h15
      clear h15
      have kont9 : ∀ (H : Heap) (locs : List Loc) (ls : Array Slot), Wd d A s.heap (List.flatten [wX cy xx0 nw0 ps0 kp0 kq0 tr0 tp0 hs0 xx_isKept, wT cy nw0 nw1 nw2 ng0 nw_people nw_fewest nw_kinds nw_loves, wG cy ng0 ng1 ng2 ng3 ng_many ng_sets ng_chalk ng_wet ng_harvest ng_draw]) H locs → lv_has ls 3 [(1, .int i1)] → W p l e (rmo 2 42) s m args below meth c H locs 0 0 Q (F0 m 43 ls [.int x8]) := by
        intro H locs ls hw hl
        clear h16
        refine lv_iload_n hx hb dX5_at_43 rfl (lv_at hl 0 rfl) ?_
        obtain ⟨r11, k12, h18⟩ := ob1 h17
        clear h17
        refine g_si F (cX5_isIn_ok l d cy x8 i1 r11 k12) cal_X5_isIn t_268 rfl ⟨by decide, by decide⟩ hw (w' := List.flatten [wX cy xx0 nw0 ps0 kp0 kq0 tr0 tp0 hs0 xx_isKept, wT cy nw0 nw1 nw2 ng0 nw_people nw_fewest nw_kinds nw_loves, wG cy ng0 ng1 ng2 ng3 ng_many ng_sets ng_chalk ng_wet ng_harvest ng_draw]) Cut.nil hl.1 (Nat.le_of_ble_eq_true rfl) rfl dX5_at_44 (fun H locs hw => ?_)
        refine lv_if_eq (tgt := 54) hx hb dX5_at_47 (by decide) (fun c13 => ?_) (fun c13 => ?_)
        · rw [if_pos c13] at h18
          refine lv_iconst (v := 0) hx hb dX5_at_54 (by decide) ?_
          obtain rfl := inj1 h18
          exact hret _ _ _ _ hw dX5_at_55
        · rw [if_neg c13] at h18
          refine lv_iconst (v := 1) hx hb dX5_at_50 (by decide) ?_
          refine lv_goto (tgt := 55) hx hb dX5_at_51 (by decide) ?_
          obtain rfl := inj1 h18
          exact hret _ _ _ _ hw dX5_at_55
      clear h17
      refine lv_if_ne (tgt := 33) hx hb dX5_at_17 (by decide) (fun c10 => ?_) (fun c10 => ?_)
      · rw [if_neg c10] at h16
        refine lv_aload_n hx hb dX5_at_33 rfl (lv_at hl 0 rfl) ?_
        refine g_get F inG5 hw 0 rfl rfl 0 (by decide) t_185 (fun _ h9 => h9) rfl dX5_at_34 ?_
        refine g_get F inG4 hw 1 rfl rfl 4 (by decide) t_116 (fun _ h9 => h9) rfl dX5_at_37 ?_
        refine g_get F inG0 hw 4 rfl rfl 4 (by decide) t_86 (fun _ h9 => h9) rfl dX5_at_40 ?_
        obtain rfl := inj1 h16
        exact kont9 _ _ _ hw (lv_sub hl [1] rfl)
      · rw [if_pos c10] at h16
        refine lv_aload_n hx hb dX5_at_20 rfl (lv_at hl 0 rfl) ?_
        refine g_get F inG5 hw 0 rfl rfl 0 (by decide) t_185 (fun _ h9 => h9) rfl dX5_at_21 ?_
        refine g_get F inG4 hw 1 rfl rfl 4 (by decide) t_116 (fun _ h9 => h9) rfl dX5_at_24 ?_
        refine g_get F inG0 hw 4 rfl rfl 3 (by decide) t_81 (fun _ h9 => h9) rfl dX5_at_27 ?_
        refine lv_goto (tgt := 43) hx hb dX5_at_30 (by decide) ?_
        obtain rfl := inj1 h16
        exact kont9 _ _ _ hw (lv_sub hl [1] rfl)
    · rw [if_pos c6] at h15
      refine lv_iconst (v := (-1)) hx hb dX5_at_14 (by decide) ?_
      obtain rfl := inj1 h15
      exact hret _ _ _ _ hw dX5_at_15
theorem cal_X5_type : CalV yX5_type cX5_type 2 (some .int) RX5 1 := ⟨t_296, t_294, t_295, t_37, by decide +kernel⟩
set_option maxHeartbeats 4000000 in
set_option maxRecDepth 100000 in
theorem cX5_type_ok (l : Launch) (d : va_G) (cy : Nat → ClassId) (xx0 tp0 tp1 nw0 ps0 kp0 kq0 tr0 hs0 : Nat) (xx_isKept : Int32) (tp_letters : Nat → Int32) (tp_length : Int32) (tp_place : Int32) (i1 : Int32) (r : Int32) (tp_letters_r : Nat → Int32) (tp_length_r : Int32) (h0 : fX5_type tp_letters tp_length i1 = some (r, tp_letters_r, tp_length_r)) : CI l yX5_type cX5_type 2 (some .int) 1 22 d cy [.ref xx0, .int i1] (List.flatten [wX cy xx0 nw0 ps0 kp0 kq0 tr0 tp0 hs0 xx_isKept, wA cy tp0 tp1 tp_letters tp_length tp_place]) (List.flatten [wX cy xx0 nw0 ps0 kp0 kq0 tr0 tp0 hs0 xx_isKept, wA cy tp0 tp1 tp_letters_r tp_length_r tp_place]) r := by
  refine CI.of (by decide) (Nat.le_of_ble_eq_true rfl) ?_
  intro p e s m args below meth c A ls Q F hret hw hl
  have hx := F.1
  have hb := F.2.1
  have hl : lv_has ls 2 [(0, .ref xx0), (1, .int i1)] := hl
  rw [fX5_type] at h0
  refine lv_iload_n hx hb dX5_type_0 rfl (lv_at hl 1 rfl) ?_
  refine lv_bipush (v := 32) hx hb dX5_type_1 (by decide) ?_
  refine lv_bipush (v := 126) hx hb dX5_type_3 (by decide) ?_
  obtain ⟨r1, k2, h9⟩ := ob1 h0
  clear h0
  refine g_si F (cX5_isWithin_ok l d cy i1 32 126 r1 k2) cal_X5_isWithin t_214 rfl ⟨by decide, by decide⟩ hw (w' := List.flatten [wX cy xx0 nw0 ps0 kp0 kq0 tr0 tp0 hs0 xx_isKept, wA cy tp0 tp1 tp_letters tp_length tp_place]) Cut.nil hl.1 (Nat.le_of_ble_eq_true rfl) rfl dX5_type_5 (fun H locs hw => ?_)
  refine lv_if_ne (tgt := 13) hx hb dX5_type_8 (by decide) (fun c3 => ?_) (fun c3 => ?_)
  · rw [if_neg c3] at h9
    refine lv_aload_n hx hb dX5_type_13 rfl (lv_at hl 0 rfl) ?_
    refine g_get F inG5 hw 0 rfl rfl 6 (by decide) t_191 (fun _ h9 => h9) rfl dX5_type_14 ?_
    refine g_get F inG3 hw 1 rfl rfl 1 (by decide) t_153 (fun _ h9 => h9) rfl dX5_type_17 ?_
    refine lv_bipush (v := 100) hx hb dX5_type_20 (by decide) ?_
    refine lv_icmp_lt (tgt := 28) hx hb dX5_type_22 (by decide) (fun c4 => ?_) (fun c4 => ?_)
    · rw [if_pos c4] at h9
      refine lv_aload_n hx hb dX5_type_28 rfl (lv_at hl 0 rfl) ?_
      refine g_get F inG5 hw 0 rfl rfl 6 (by decide) t_191 (fun _ h9 => h9) rfl dX5_type_29 ?_
      refine lv_iload_n hx hb dX5_type_32 rfl (lv_at hl 1 rfl) ?_
      refine lv_i2c hx hb dX5_type_33 rfl ?_
      obtain ⟨r5, f6, x7, k8, h10⟩ := ob3 h9
      clear h9
      refine g_vi F (cX3_put_ok l d cy tp0 tp1 tp_letters tp_length tp_place ((Int32.toUInt32 i1 % 65536).toInt32) r5 f6 x7 k8) cal_X3_put t_297 rfl ⟨by decide, by decide⟩ hw (w' := List.flatten [wX cy xx0 nw0 ps0 kp0 kq0 tr0 tp0 hs0 xx_isKept, wA cy tp0 tp1 f6 x7 tp_place]) (SCut.cut (SCut.one (SCut.skip (SCut.take SCut.rf SCut.none)))) 0 3 rfl rfl hl.1 (Nat.le_of_ble_eq_true rfl) rfl dX5_type_34 (fun H locs hw => ?_)
      obtain ⟨rfl, rfl, rfl⟩ := inj3 h10
      exact hret _ _ _ _ hw dX5_type_37
    · rw [if_neg c4] at h9
      refine lv_bipush (v := (-3)) hx hb dX5_type_25 (by decide) ?_
      obtain ⟨rfl, rfl, rfl⟩ := inj3 h9
      exact hret _ _ _ _ hw dX5_type_27
  · rw [if_pos c3] at h9
    refine lv_iconst (v := (-1)) hx hb dX5_type_11 (by decide) ?_
    obtain ⟨rfl, rfl, rfl⟩ := inj3 h9
    exact hret _ _ _ _ hw dX5_type_12
theorem cal_X5_read : CalV yX5_read cX5_read 3 (some .int) RX5 0 := ⟨t_304, t_302, t_303, t_37, by decide +kernel⟩
set_option maxHeartbeats 4000000 in
set_option maxRecDepth 100000 in
theorem cX5_read_ok (l : Launch) (d : va_G) (cy : Nat → ClassId) (xx0 nw0 nw1 nw2 ng0 ng1 ng2 ng3 ps0 ps1 tr0 tr1 tr2 tg0 tg1 tg2 tg3 tp0 tp1 kp0 kq0 hs0 : Nat) (xx_isKept : Int32) (nw_people : Int32) (nw_fewest : Int32) (nw_kinds : Nat → Int32) (nw_loves : Nat → Int32) (ng_many : Nat → Int32) (ng_sets : Nat → Int32) (ng_chalk : Nat → Int32) (ng_wet : Int32) (ng_harvest : Int32) (ng_draw : Int32) (ps_known : Int32) (ps_r0 : Nat → Nat) (ps_r1 : Nat → Nat) (ps_r2 : Nat → Nat) (ps_r3 : Nat → Nat) (ps_many : Nat → Nat → Int32) (ps_sets : Nat → Nat → Int32) (ps_chalk : Nat → Nat → Int32) (ps_wet : Nat → Int32) (ps_harvest : Nat → Int32) (ps_draw : Nat → Int32) (tr_people : Int32) (tr_fewest : Int32) (tr_kinds : Nat → Int32) (tr_loves : Nat → Int32) (tg_many : Nat → Int32) (tg_sets : Nat → Int32) (tg_chalk : Nat → Int32) (tg_wet : Int32) (tg_harvest : Int32) (tg_draw : Int32) (tp_letters : Nat → Int32) (tp_length : Int32) (tp_place : Int32) (r : Int32) (nw_people_r : Int32) (nw_fewest_r : Int32) (nw_kinds_r : Nat → Int32) (nw_loves_r : Nat → Int32) (ng_many_r : Nat → Int32) (ng_sets_r : Nat → Int32) (ng_chalk_r : Nat → Int32) (ng_wet_r : Int32) (ng_harvest_r : Int32) (ng_draw_r : Int32) (ps_known_r : Int32) (tr_people_r : Int32) (tr_fewest_r : Int32) (tr_kinds_r : Nat → Int32) (tr_loves_r : Nat → Int32) (tg_many_r : Nat → Int32) (tg_sets_r : Nat → Int32) (tg_chalk_r : Nat → Int32) (tg_wet_r : Int32) (tg_harvest_r : Int32) (tg_draw_r : Int32) (tp_length_r : Int32) (tp_place_r : Int32) (h0 : fX5_read nw_people nw_fewest nw_kinds nw_loves ng_many ng_sets ng_chalk ng_wet ng_harvest ng_draw ps_known tr_kinds tr_loves tg_many tg_sets tg_chalk tp_letters tp_length = some (r, nw_people_r, nw_fewest_r, nw_kinds_r, nw_loves_r, ng_many_r, ng_sets_r, ng_chalk_r, ng_wet_r, ng_harvest_r, ng_draw_r, ps_known_r, tr_people_r, tr_fewest_r, tr_kinds_r, tr_loves_r, tg_many_r, tg_sets_r, tg_chalk_r, tg_wet_r, tg_harvest_r, tg_draw_r, tp_length_r, tp_place_r)) : CI l yX5_read cX5_read 3 (some .int) 9 203 d cy [.ref xx0] (List.flatten [wX cy xx0 nw0 ps0 kp0 kq0 tr0 tp0 hs0 xx_isKept, wT cy nw0 nw1 nw2 ng0 nw_people nw_fewest nw_kinds nw_loves, wG cy ng0 ng1 ng2 ng3 ng_many ng_sets ng_chalk ng_wet ng_harvest ng_draw, wP cy ps0 ps1 ps_known ps_r0 ps_r1 ps_r2 ps_r3 ps_many ps_sets ps_chalk ps_wet ps_harvest ps_draw, wT cy tr0 tr1 tr2 tg0 tr_people tr_fewest tr_kinds tr_loves, wG cy tg0 tg1 tg2 tg3 tg_many tg_sets tg_chalk tg_wet tg_harvest tg_draw, wA cy tp0 tp1 tp_letters tp_length tp_place]) (List.flatten [wX cy xx0 nw0 ps0 kp0 kq0 tr0 tp0 hs0 xx_isKept, wT cy nw0 nw1 nw2 ng0 nw_people_r nw_fewest_r nw_kinds_r nw_loves_r, wG cy ng0 ng1 ng2 ng3 ng_many_r ng_sets_r ng_chalk_r ng_wet_r ng_harvest_r ng_draw_r, wP cy ps0 ps1 ps_known_r ps_r0 ps_r1 ps_r2 ps_r3 ps_many ps_sets ps_chalk ps_wet ps_harvest ps_draw, wT cy tr0 tr1 tr2 tg0 tr_people_r tr_fewest_r tr_kinds_r tr_loves_r, wG cy tg0 tg1 tg2 tg3 tg_many_r tg_sets_r tg_chalk_r tg_wet_r tg_harvest_r tg_draw_r, wA cy tp0 tp1 tp_letters tp_length_r tp_place_r]) r := by
  refine CI.of (by decide) (Nat.le_of_ble_eq_true rfl) ?_
  intro p e s m args below meth c A ls Q F hret hw hl
  have hx := F.1
  have hb := F.2.1
  have hl : lv_has ls 3 [(0, .ref xx0)] := hl
  rw [fX5_read] at h0
  refine lv_aload_n hx hb dX5_read_0 rfl (lv_at hl 0 rfl) ?_
  refine g_get F inG5 hw 0 rfl rfl 5 (by decide) t_190 (fun _ h9 => h9) rfl dX5_read_1 ?_
  refine lv_aload_n hx hb dX5_read_4 rfl (lv_at hl 0 rfl) ?_
  refine g_get F inG5 hw 0 rfl rfl 0 (by decide) t_185 (fun _ h9 => h9) rfl dX5_read_5 ?_
  obtain ⟨x1, x2, f3, f4, f5, f6, f7, x8, x9, x10, k11, h40⟩ := ob10 h0
  clear h0
  refine g_vv F (cX4_copyTown_ok l d cy tr0 tr1 tr2 tg0 tg1 tg2 tg3 nw0 nw1 nw2 ng0 ng1 ng2 ng3 tr_people tr_fewest tr_kinds tr_loves tg_many tg_sets tg_chalk tg_wet tg_harvest tg_draw nw_people nw_fewest nw_kinds nw_loves ng_many ng_sets ng_chalk ng_wet ng_harvest ng_draw x1 x2 f3 f4 f5 f6 f7 x8 x9 x10 k11) cal_X4_copyTown t_305 rfl ⟨by decide, by decide⟩ hw (w' := List.flatten [wX cy xx0 nw0 ps0 kp0 kq0 tr0 tp0 hs0 xx_isKept, wT cy nw0 nw1 nw2 ng0 nw_people nw_fewest nw_kinds nw_loves, wG cy ng0 ng1 ng2 ng3 ng_many ng_sets ng_chalk ng_wet ng_harvest ng_draw, wP cy ps0 ps1 ps_known ps_r0 ps_r1 ps_r2 ps_r3 ps_many ps_sets ps_chalk ps_wet ps_harvest ps_draw, wT cy tr0 tr1 tr2 tg0 x1 x2 f3 f4, wG cy tg0 tg1 tg2 tg3 f5 f6 f7 x8 x9 x10, wA cy tp0 tp1 tp_letters tp_length tp_place]) (SCut.cut (SCut.ord [_, _, _, _] [_, _, _, _] [2, 3, 0, 1] (show List.Perm [2, 3, 0, 1] (List.range 4) by decide) rfl (SCut.skip (SCut.take SCut.rf (SCut.take SCut.rf (SCut.skip (SCut.take SCut.rf (SCut.take SCut.rf (SCut.skip SCut.none))))))))) 0 4 rfl rfl hl.1 (Nat.le_of_ble_eq_true rfl) rfl dX5_read_8 (fun H locs hw => ?_)
  refine lv_aload_n hx hb dX5_read_11 rfl (lv_at hl 0 rfl) ?_
  refine g_get F inG5 hw 0 rfl rfl 6 (by decide) t_191 (fun _ h9 => h9) rfl dX5_read_12 ?_
  refine lv_aload_n hx hb dX5_read_15 rfl (lv_at hl 0 rfl) ?_
  refine g_get F inG5 hw 0 rfl rfl 5 (by decide) t_190 (fun _ h9 => h9) rfl dX5_read_16 ?_
  obtain ⟨r12, x13, x14, f15, f16, f17, f18, f19, x20, x21, k22, h41⟩ := ob10 h40
  clear h40
  refine g_vi F (cX3_tell_ok l d cy tp0 tp1 tr0 tr1 tr2 tg0 tg1 tg2 tg3 tp_letters tp_length tp_place x1 x2 f3 f4 f5 f6 f7 x8 x9 x10 r12 x13 x14 f15 f16 f17 f18 f19 x20 x21 k22) cal_X3_tell t_317 rfl ⟨by decide, by decide⟩ hw (w' := List.flatten [wX cy xx0 nw0 ps0 kp0 kq0 tr0 tp0 hs0 xx_isKept, wT cy nw0 nw1 nw2 ng0 nw_people nw_fewest nw_kinds nw_loves, wG cy ng0 ng1 ng2 ng3 ng_many ng_sets ng_chalk ng_wet ng_harvest ng_draw, wP cy ps0 ps1 ps_known ps_r0 ps_r1 ps_r2 ps_r3 ps_many ps_sets ps_chalk ps_wet ps_harvest ps_draw, wT cy tr0 tr1 tr2 tg0 x14 x2 f15 f16, wG cy tg0 tg1 tg2 tg3 f17 f18 f19 x20 x21 x10, wA cy tp0 tp1 tp_letters tp_length x13]) (SCut.cut (SCut.ord [_, _, _] [_, _, _] [2, 0, 1] (show List.Perm [2, 0, 1] (List.range 3) by decide) rfl (SCut.skip (SCut.skip (SCut.skip (SCut.skip (SCut.take SCut.rf (SCut.take SCut.rf (SCut.take SCut.rf SCut.none))))))))) 0 3 rfl rfl hl.1 (Nat.le_of_ble_eq_true rfl) rfl dX5_read_19 (fun H locs hw => ?_)
  refine lv_istore_n (lv' := [(1, .int r12), (0, .ref xx0)]) hx hb dX5_read_22 rfl hl (by decide) rfl (fun ls hl => ?_)
  refine lv_aload_n hx hb dX5_read_23 rfl (lv_at hl 1 rfl) ?_
  refine g_get F inG5 hw 0 rfl rfl 6 (by decide) t_191 (fun _ h9 => h9) rfl dX5_read_24 ?_
  refine g_get F inG3 hw 49 rfl rfl 2 (by decide) t_155 (fun _ h9 => h9) rfl dX5_read_27 ?_
  refine lv_istore_n (lv' := [(2, .int x13), (1, .int r12), (0, .ref xx0)]) hx hb dX5_read_30 rfl hl (by decide) rfl (fun ls hl => ?_)
  refine lv_aload_n hx hb dX5_read_31 rfl (lv_at hl 2 rfl) ?_
  refine g_get F inG5 hw 0 rfl rfl 6 (by decide) t_191 (fun _ h9 => h9) rfl dX5_read_32 ?_
  obtain ⟨x23, x24, k25, h42⟩ := ob2 h41
  clear h41
  refine g_vv F (cX3_wipe_ok l d cy tp0 tp1 tp_letters tp_length x13 x23 x24 k25) cal_X3_wipe t_450 rfl ⟨by decide, by decide⟩ hw (w' := List.flatten [wX cy xx0 nw0 ps0 kp0 kq0 tr0 tp0 hs0 xx_isKept, wT cy nw0 nw1 nw2 ng0 nw_people nw_fewest nw_kinds nw_loves, wG cy ng0 ng1 ng2 ng3 ng_many ng_sets ng_chalk ng_wet ng_harvest ng_draw, wP cy ps0 ps1 ps_known ps_r0 ps_r1 ps_r2 ps_r3 ps_many ps_sets ps_chalk ps_wet ps_harvest ps_draw, wT cy tr0 tr1 tr2 tg0 x14 x2 f15 f16, wG cy tg0 tg1 tg2 tg3 f17 f18 f19 x20 x21 x10, wA cy tp0 tp1 tp_letters x23 x24]) (SCut.cut (SCut.one (SCut.skip (SCut.skip (SCut.skip (SCut.skip (SCut.skip (SCut.skip (SCut.take SCut.rf SCut.none))))))))) 0 3 rfl rfl hl.1 (Nat.le_of_ble_eq_true rfl) rfl dX5_read_35 (fun H locs hw => ?_)
  refine lv_iload_n hx hb dX5_read_38 rfl (lv_at hl 1 rfl) ?_
  refine lv_if_ne (tgt := 47) hx hb dX5_read_39 (by decide) (fun c26 => ?_) (fun c26 => ?_)
  · rw [if_neg c26] at h42
    refine lv_aload_n hx hb dX5_read_47 rfl (lv_at hl 2 rfl) ?_
    refine g_get F inG5 hw 0 rfl rfl 0 (by decide) t_185 (fun _ h9 => h9) rfl dX5_read_48 ?_
    refine lv_aload_n hx hb dX5_read_51 rfl (lv_at hl 2 rfl) ?_
    refine g_get F inG5 hw 0 rfl rfl 5 (by decide) t_190 (fun _ h9 => h9) rfl dX5_read_52 ?_
    obtain ⟨x27, x28, f29, f30, f31, f32, f33, x34, x35, x36, k37, h43⟩ := ob10 h42
    clear h42
    refine g_vv F (cX4_copyTown_ok l d cy nw0 nw1 nw2 ng0 ng1 ng2 ng3 tr0 tr1 tr2 tg0 tg1 tg2 tg3 nw_people nw_fewest nw_kinds nw_loves ng_many ng_sets ng_chalk ng_wet ng_harvest ng_draw x14 x2 f15 f16 f17 f18 f19 x20 x21 x10 x27 x28 f29 f30 f31 f32 f33 x34 x35 x36 k37) cal_X4_copyTown t_305 rfl ⟨by decide, by decide⟩ hw (w' := List.flatten [wX cy xx0 nw0 ps0 kp0 kq0 tr0 tp0 hs0 xx_isKept, wT cy nw0 nw1 nw2 ng0 x27 x28 f29 f30, wG cy ng0 ng1 ng2 ng3 f31 f32 f33 x34 x35 x36, wP cy ps0 ps1 ps_known ps_r0 ps_r1 ps_r2 ps_r3 ps_many ps_sets ps_chalk ps_wet ps_harvest ps_draw, wT cy tr0 tr1 tr2 tg0 x14 x2 f15 f16, wG cy tg0 tg1 tg2 tg3 f17 f18 f19 x20 x21 x10, wA cy tp0 tp1 tp_letters x23 x24]) (SCut.cut (SCut.skip (SCut.take SCut.rf (SCut.take SCut.rf (SCut.skip (SCut.take SCut.rf (SCut.take SCut.rf (SCut.skip SCut.none)))))))) 0 4 rfl rfl hl.1 (Nat.le_of_ble_eq_true rfl) rfl dX5_read_55 (fun H locs hw => ?_)
    refine lv_aload_n hx hb dX5_read_58 rfl (lv_at hl 2 rfl) ?_
    refine g_get F inG5 hw 0 rfl rfl 1 (by decide) t_186 (fun _ h9 => h9) rfl dX5_read_59 ?_
    obtain ⟨x38, k39, h44⟩ := ob1 h43
    clear h43
    refine g_vv F (cX1_forget_ok l d cy ps0 ps1 ps_known ps_r0 ps_r1 ps_r2 ps_r3 ps_many ps_sets ps_chalk ps_wet ps_harvest ps_draw x38 k39) cal_X1_forget t_217 rfl ⟨by decide, by decide⟩ hw (w' := List.flatten [wX cy xx0 nw0 ps0 kp0 kq0 tr0 tp0 hs0 xx_isKept, wT cy nw0 nw1 nw2 ng0 x27 x28 f29 f30, wG cy ng0 ng1 ng2 ng3 f31 f32 f33 x34 x35 x36, wP cy ps0 ps1 x38 ps_r0 ps_r1 ps_r2 ps_r3 ps_many ps_sets ps_chalk ps_wet ps_harvest ps_draw, wT cy tr0 tr1 tr2 tg0 x14 x2 f15 f16, wG cy tg0 tg1 tg2 tg3 f17 f18 f19 x20 x21 x10, wA cy tp0 tp1 tp_letters x23 x24]) (SCut.cut (SCut.one (SCut.skip (SCut.skip (SCut.skip (SCut.take SCut.rf (SCut.skip (SCut.skip (SCut.skip SCut.none))))))))) 0 1 rfl rfl hl.1 (Nat.le_of_ble_eq_true rfl) rfl dX5_read_62 (fun H locs hw => ?_)
    refine lv_aload_n hx hb dX5_read_65 rfl (lv_at hl 2 rfl) ?_
    refine g_get F inG5 hw 0 rfl rfl 0 (by decide) t_185 (fun _ h9 => h9) rfl dX5_read_66 ?_
    refine g_get F inG4 hw 1 rfl rfl 0 (by decide) t_105 (fun _ h9 => h9) rfl dX5_read_69 ?_
    obtain ⟨rfl, rfl, rfl, rfl, rfl, rfl, rfl, rfl, rfl, rfl, rfl, rfl, rfl, rfl, rfl, rfl, rfl, rfl, rfl, rfl, rfl, rfl, rfl, rfl⟩ := inj24 h44
    exact hret _ _ _ _ hw dX5_read_72
  · rw [if_pos c26] at h42
    refine lv_bipush (v := (-20)) hx hb dX5_read_42 (by decide) ?_
    refine lv_iload_n hx hb dX5_read_44 rfl (lv_at hl 0 rfl) ?_
    refine lv_isub hx hb dX5_read_45 ?_
    obtain ⟨rfl, rfl, rfl, rfl, rfl, rfl, rfl, rfl, rfl, rfl, rfl, rfl, rfl, rfl, rfl, rfl, rfl, rfl, rfl, rfl, rfl, rfl, rfl, rfl⟩ := inj24 h42
    exact hret _ _ _ _ hw dX5_read_46
theorem cal_X5_count : CalV yX5_count cX5_count 2 (some .int) RX5 1 := ⟨t_458, t_456, t_457, t_37, by decide +kernel⟩
set_option maxHeartbeats 4000000 in
set_option maxRecDepth 100000 in
theorem cX5_count_ok (l : Launch) (d : va_G) (cy : Nat → ClassId) (xx0 nw0 nw1 nw2 ng0 ng1 ng2 ng3 ps0 ps1 kp0 kq0 tr0 tp0 hs0 : Nat) (xx_isKept : Int32) (nw_people : Int32) (nw_fewest : Int32) (nw_kinds : Nat → Int32) (nw_loves : Nat → Int32) (ng_many : Nat → Int32) (ng_sets : Nat → Int32) (ng_chalk : Nat → Int32) (ng_wet : Int32) (ng_harvest : Int32) (ng_draw : Int32) (ps_known : Int32) (ps_r0 : Nat → Nat) (ps_r1 : Nat → Nat) (ps_r2 : Nat → Nat) (ps_r3 : Nat → Nat) (ps_many : Nat → Nat → Int32) (ps_sets : Nat → Nat → Int32) (ps_chalk : Nat → Nat → Int32) (ps_wet : Nat → Int32) (ps_harvest : Nat → Int32) (ps_draw : Nat → Int32) (i1 : Int32) (r : Int32) (h0 : fX5_count nw_people nw_fewest nw_kinds nw_loves ng_sets ng_chalk ng_wet ng_harvest ps_known i1 = some (r)) : CI l yX5_count cX5_count 2 (some .int) 5 118 d cy [.ref xx0, .int i1] (List.flatten [wX cy xx0 nw0 ps0 kp0 kq0 tr0 tp0 hs0 xx_isKept, wT cy nw0 nw1 nw2 ng0 nw_people nw_fewest nw_kinds nw_loves, wG cy ng0 ng1 ng2 ng3 ng_many ng_sets ng_chalk ng_wet ng_harvest ng_draw, wP cy ps0 ps1 ps_known ps_r0 ps_r1 ps_r2 ps_r3 ps_many ps_sets ps_chalk ps_wet ps_harvest ps_draw]) (List.flatten [wX cy xx0 nw0 ps0 kp0 kq0 tr0 tp0 hs0 xx_isKept, wT cy nw0 nw1 nw2 ng0 nw_people nw_fewest nw_kinds nw_loves, wG cy ng0 ng1 ng2 ng3 ng_many ng_sets ng_chalk ng_wet ng_harvest ng_draw, wP cy ps0 ps1 ps_known ps_r0 ps_r1 ps_r2 ps_r3 ps_many ps_sets ps_chalk ps_wet ps_harvest ps_draw]) r := by
  refine CI.of (by decide) (Nat.le_of_ble_eq_true rfl) ?_
  intro p e s m args below meth c A ls Q F hret hw hl
  have hx := F.1
  have hb := F.2.1
  have hl : lv_has ls 2 [(0, .ref xx0), (1, .int i1)] := hl
  rw [fX5_count] at h0
  refine lv_iload_n hx hb dX5_count_0 rfl (lv_at hl 1 rfl) ?_
  by_cases c5 : i1 = 0
  · rw [if_pos c5] at h0
    refine lv_tableIn (off := 43) (tgt := 44) hx hb dX5_count_1 (by rw [c5]; decide) (by rw [c5]; decide) (by rw [c5]; rfl) (by decide) ?_
    refine lv_aload_n hx hb dX5_count_44 rfl (lv_at hl 0 rfl) ?_
    refine g_get F inG5 hw 0 rfl rfl 0 (by decide) t_185 (fun _ h9 => h9) rfl dX5_count_45 ?_
    refine g_get F inG4 hw 1 rfl rfl 0 (by decide) t_105 (fun _ h9 => h9) rfl dX5_count_48 ?_
    obtain rfl := inj1 h0
    exact hret _ _ _ _ hw dX5_count_51
  rw [if_neg c5] at h0
  by_cases c6 : i1 = 1
  · rw [if_pos c6] at h0
    refine lv_tableIn (off := 51) (tgt := 52) hx hb dX5_count_1 (by rw [c6]; decide) (by rw [c6]; decide) (by rw [c6]; rfl) (by decide) ?_
    refine lv_aload_n hx hb dX5_count_52 rfl (lv_at hl 0 rfl) ?_
    refine g_get F inG5 hw 0 rfl rfl 0 (by decide) t_185 (fun _ h9 => h9) rfl dX5_count_53 ?_
    refine g_get F inG4 hw 1 rfl rfl 1 (by decide) t_108 (fun _ h9 => h9) rfl dX5_count_56 ?_
    obtain rfl := inj1 h0
    exact hret _ _ _ _ hw dX5_count_59
  rw [if_neg c6] at h0
  by_cases c7 : i1 = 2
  · rw [if_pos c7] at h0
    refine lv_tableIn (off := 59) (tgt := 60) hx hb dX5_count_1 (by rw [c7]; decide) (by rw [c7]; decide) (by rw [c7]; rfl) (by decide) ?_
    refine lv_aload_n hx hb dX5_count_60 rfl (lv_at hl 0 rfl) ?_
    refine g_get F inG5 hw 0 rfl rfl 0 (by decide) t_185 (fun _ h9 => h9) rfl dX5_count_61 ?_
    refine g_get F inG4 hw 1 rfl rfl 4 (by decide) t_116 (fun _ h9 => h9) rfl dX5_count_64 ?_
    refine g_get F inG0 hw 4 rfl rfl 3 (by decide) t_81 (fun _ h9 => h9) rfl dX5_count_67 ?_
    obtain rfl := inj1 h0
    exact hret _ _ _ _ hw dX5_count_70
  rw [if_neg c7] at h0
  by_cases c8 : i1 = 3
  · rw [if_pos c8] at h0
    refine lv_tableIn (off := 70) (tgt := 71) hx hb dX5_count_1 (by rw [c8]; decide) (by rw [c8]; decide) (by rw [c8]; rfl) (by decide) ?_
    refine lv_aload_n hx hb dX5_count_71 rfl (lv_at hl 0 rfl) ?_
    refine g_get F inG5 hw 0 rfl rfl 0 (by decide) t_185 (fun _ h9 => h9) rfl dX5_count_72 ?_
    refine g_get F inG4 hw 1 rfl rfl 4 (by decide) t_116 (fun _ h9 => h9) rfl dX5_count_75 ?_
    refine g_get F inG0 hw 4 rfl rfl 4 (by decide) t_86 (fun _ h9 => h9) rfl dX5_count_78 ?_
    obtain rfl := inj1 h0
    exact hret _ _ _ _ hw dX5_count_81
  rw [if_neg c8] at h0
  by_cases c9 : i1 = 4
  · rw [if_pos c9] at h0
    refine lv_tableIn (off := 81) (tgt := 82) hx hb dX5_count_1 (by rw [c9]; decide) (by rw [c9]; decide) (by rw [c9]; rfl) (by decide) ?_
    refine lv_aload_n hx hb dX5_count_82 rfl (lv_at hl 0 rfl) ?_
    refine g_get F inG5 hw 0 rfl rfl 0 (by decide) t_185 (fun _ h9 => h9) rfl dX5_count_83 ?_
    obtain ⟨r1, k2, h10⟩ := ob1 h0
    clear h0
    refine g_vi F (cX4_worthOfAll_ok l d cy nw0 nw1 nw2 ng0 ng1 ng2 ng3 nw_people nw_fewest nw_kinds nw_loves ng_many ng_sets ng_chalk ng_wet ng_harvest ng_draw r1 k2) cal_X4_worthOfAll t_459 rfl ⟨by decide, by decide⟩ hw (w' := List.flatten [wX cy xx0 nw0 ps0 kp0 kq0 tr0 tp0 hs0 xx_isKept, wT cy nw0 nw1 nw2 ng0 nw_people nw_fewest nw_kinds nw_loves, wG cy ng0 ng1 ng2 ng3 ng_many ng_sets ng_chalk ng_wet ng_harvest ng_draw, wP cy ps0 ps1 ps_known ps_r0 ps_r1 ps_r2 ps_r3 ps_many ps_sets ps_chalk ps_wet ps_harvest ps_draw]) (SCut.cut (SCut.skip (SCut.take SCut.rf (SCut.take SCut.rf (SCut.skip SCut.none))))) 0 4 rfl rfl hl.1 (Nat.le_of_ble_eq_true rfl) rfl dX5_count_86 (fun H locs hw => ?_)
    obtain rfl := inj1 h10
    exact hret _ _ _ _ hw dX5_count_89
  rw [if_neg c9] at h0
  by_cases c11 : i1 = 5
  · rw [if_pos c11] at h0
    refine lv_tableIn (off := 89) (tgt := 90) hx hb dX5_count_1 (by rw [c11]; decide) (by rw [c11]; decide) (by rw [c11]; rfl) (by decide) ?_
    refine lv_aload_n hx hb dX5_count_90 rfl (lv_at hl 0 rfl) ?_
    refine g_get F inG5 hw 0 rfl rfl 0 (by decide) t_185 (fun _ h9 => h9) rfl dX5_count_91 ?_
    obtain ⟨r3, k4, h12⟩ := ob1 h0
    clear h0
    refine g_vi F (cX4_chalkOfAll_ok l d cy nw0 nw1 nw2 ng0 ng1 ng2 ng3 nw_people nw_fewest nw_kinds nw_loves ng_many ng_sets ng_chalk ng_wet ng_harvest ng_draw r3 k4) cal_X4_chalkOfAll t_464 rfl ⟨by decide, by decide⟩ hw (w' := List.flatten [wX cy xx0 nw0 ps0 kp0 kq0 tr0 tp0 hs0 xx_isKept, wT cy nw0 nw1 nw2 ng0 nw_people nw_fewest nw_kinds nw_loves, wG cy ng0 ng1 ng2 ng3 ng_many ng_sets ng_chalk ng_wet ng_harvest ng_draw, wP cy ps0 ps1 ps_known ps_r0 ps_r1 ps_r2 ps_r3 ps_many ps_sets ps_chalk ps_wet ps_harvest ps_draw]) (SCut.cut (SCut.skip (SCut.take SCut.rf (SCut.take SCut.rf (SCut.skip SCut.none))))) 0 4 rfl rfl hl.1 (Nat.le_of_ble_eq_true rfl) rfl dX5_count_94 (fun H locs hw => ?_)
    obtain rfl := inj1 h12
    exact hret _ _ _ _ hw dX5_count_97
  rw [if_neg c11] at h0
  by_cases c13 : i1 = 6
  · rw [if_pos c13] at h0
    refine lv_tableIn (off := 97) (tgt := 98) hx hb dX5_count_1 (by rw [c13]; decide) (by rw [c13]; decide) (by rw [c13]; rfl) (by decide) ?_
    refine lv_aload_n hx hb dX5_count_98 rfl (lv_at hl 0 rfl) ?_
    refine g_get F inG5 hw 0 rfl rfl 1 (by decide) t_186 (fun _ h9 => h9) rfl dX5_count_99 ?_
    refine g_get F inG1 hw 8 rfl rfl 1 (by decide) t_139 (fun _ h9 => h9) rfl dX5_count_102 ?_
    obtain rfl := inj1 h0
    exact hret _ _ _ _ hw dX5_count_105
  rw [if_neg c13] at h0
  have nc5 := lv_neT c5 (a := 0) (by decide)
  have nc6 := lv_neT c6 (a := 1) (by decide)
  have nc7 := lv_neT c7 (a := 2) (by decide)
  have nc8 := lv_neT c8 (a := 3) (by decide)
  have nc9 := lv_neT c9 (a := 4) (by decide)
  have nc11 := lv_neT c11 (a := 5) (by decide)
  have nc13 := lv_neT c13 (a := 6) (by decide)
  refine lv_tableOut (tgt := 106) hx hb dX5_count_1 (by omega) (by decide) ?_
  refine lv_iconst (v := (-1)) hx hb dX5_count_106 (by decide) ?_
  obtain rfl := inj1 h0
  exact hret _ _ _ _ hw dX5_count_107
theorem cal_X5_sell : CalV yX5_sell cX5_sell 5 (some .int) RX5 4 := ⟨t_471, t_469, t_470, t_37, by decide +kernel⟩
set_option maxHeartbeats 4000000 in
set_option maxRecDepth 100000 in
theorem cX5_sell_ok (l : Launch) (d : va_G) (cy : Nat → ClassId) (xx0 nw0 nw1 nw2 ng0 ng1 ng2 ng3 ps0 ps1 kp0 kq0 tr0 tp0 hs0 : Nat) (xx_isKept : Int32) (nw_people : Int32) (nw_fewest : Int32) (nw_kinds : Nat → Int32) (nw_loves : Nat → Int32) (ng_many : Nat → Int32) (ng_sets : Nat → Int32) (ng_chalk : Nat → Int32) (ng_wet : Int32) (ng_harvest : Int32) (ng_draw : Int32) (ps_known : Int32) (ps_r0 : Nat → Nat) (ps_r1 : Nat → Nat) (ps_r2 : Nat → Nat) (ps_r3 : Nat → Nat) (ps_many : Nat → Nat → Int32) (ps_sets : Nat → Nat → Int32) (ps_chalk : Nat → Nat → Int32) (ps_wet : Nat → Int32) (ps_harvest : Nat → Int32) (ps_draw : Nat → Int32) (i1 : Int32) (i2 : Int32) (i3 : Int32) (i4 : Int32) (r : Int32) (ng_many_r : Nat → Int32) (ng_sets_r : Nat → Int32) (ng_chalk_r : Nat → Int32) (ps_known_r : Int32) (ps_r0_r : Nat → Nat) (ps_r1_r : Nat → Nat) (ps_r2_r : Nat → Nat) (ps_r3_r : Nat → Nat) (ps_many_r : Nat → Nat → Int32) (ps_sets_r : Nat → Nat → Int32) (ps_chalk_r : Nat → Nat → Int32) (ps_wet_r : Nat → Int32) (ps_harvest_r : Nat → Int32) (ps_draw_r : Nat → Int32) (h0 : fX5_sell nw_people nw_fewest ng_many ng_sets ng_chalk ng_wet ng_harvest ng_draw ps_known ps_r0 ps_r1 ps_r2 ps_r3 ps_many ps_sets ps_chalk ps_wet ps_harvest ps_draw i1 i2 i3 i4 = some (r, ng_many_r, ng_sets_r, ng_chalk_r, ps_known_r, ps_r0_r, ps_r1_r, ps_r2_r, ps_r3_r, ps_many_r, ps_sets_r, ps_chalk_r, ps_wet_r, ps_harvest_r, ps_draw_r)) : CI l yX5_sell cX5_sell 5 (some .int) 3 102 d cy [.ref xx0, .int i1, .int i2, .int i3, .int i4] (List.flatten [wX cy xx0 nw0 ps0 kp0 kq0 tr0 tp0 hs0 xx_isKept, wT cy nw0 nw1 nw2 ng0 nw_people nw_fewest nw_kinds nw_loves, wG cy ng0 ng1 ng2 ng3 ng_many ng_sets ng_chalk ng_wet ng_harvest ng_draw, wP cy ps0 ps1 ps_known ps_r0 ps_r1 ps_r2 ps_r3 ps_many ps_sets ps_chalk ps_wet ps_harvest ps_draw]) (List.flatten [wX cy xx0 nw0 ps0 kp0 kq0 tr0 tp0 hs0 xx_isKept, wT cy nw0 nw1 nw2 ng0 nw_people nw_fewest nw_kinds nw_loves, wG cy ng0 ng1 ng2 ng3 ng_many_r ng_sets_r ng_chalk_r ng_wet ng_harvest ng_draw, wP cy ps0 ps1 ps_known_r ps_r0_r ps_r1_r ps_r2_r ps_r3_r ps_many_r ps_sets_r ps_chalk_r ps_wet_r ps_harvest_r ps_draw_r]) r := by
  refine CI.of (by decide) (Nat.le_of_ble_eq_true rfl) ?_
  intro p e s m args below meth c A ls Q F hret hw hl
  have hx := F.1
  have hb := F.2.1
  have hl : lv_has ls 5 [(0, .ref xx0), (1, .int i1), (2, .int i2), (3, .int i3), (4, .int i4)] := hl
  rw [fX5_sell] at h0
  refine lv_aload_n hx hb dX5_sell_0 rfl (lv_at hl 0 rfl) ?_
  refine g_get F inG5 hw 0 rfl rfl 0 (by decide) t_185 (fun _ h9 => h9) rfl dX5_sell_1 ?_
  refine lv_iload_n hx hb dX5_sell_4 rfl (lv_at hl 1 rfl) ?_
  refine lv_iload_n hx hb dX5_sell_5 rfl (lv_at hl 2 rfl) ?_
  obtain ⟨r1, k2, h32⟩ := ob1 h0
  clear h0
  refine g_vi F (cX4_areTwo_ok l d cy nw0 nw1 nw2 ng0 ng1 ng2 ng3 nw_people nw_fewest nw_kinds nw_loves ng_many ng_sets ng_chalk ng_wet ng_harvest ng_draw i1 i2 r1 k2) cal_X4_areTwo t_472 rfl ⟨by decide, by decide⟩ hw (w' := List.flatten [wX cy xx0 nw0 ps0 kp0 kq0 tr0 tp0 hs0 xx_isKept, wT cy nw0 nw1 nw2 ng0 nw_people nw_fewest nw_kinds nw_loves, wG cy ng0 ng1 ng2 ng3 ng_many ng_sets ng_chalk ng_wet ng_harvest ng_draw, wP cy ps0 ps1 ps_known ps_r0 ps_r1 ps_r2 ps_r3 ps_many ps_sets ps_chalk ps_wet ps_harvest ps_draw]) (SCut.cut (SCut.skip (SCut.take SCut.rf (SCut.take SCut.rf (SCut.skip SCut.none))))) 0 4 rfl rfl hl.1 (Nat.le_of_ble_eq_true rfl) rfl dX5_sell_6 (fun H locs hw => ?_)
  refine lv_if_eq (tgt := 30) hx hb dX5_sell_9 (by decide) (fun c3 => ?_) (fun c3 => ?_)
  · rw [if_pos c3] at h32
    refine lv_iconst (v := (-1)) hx hb dX5_sell_30 (by decide) ?_
    obtain ⟨rfl, rfl, rfl, rfl, rfl, rfl, rfl, rfl, rfl, rfl, rfl, rfl, rfl, rfl, rfl⟩ := inj15 h32
    exact hret _ _ _ _ hw dX5_sell_31
  · rw [if_neg c3] at h32
    refine lv_iload_n hx hb dX5_sell_12 rfl (lv_at hl 3 rfl) ?_
    obtain ⟨r4, k5, h33⟩ := ob1 h32
    clear h32
    refine g_si F (cX5_isHalf_ok l d cy i3 r4 k5) cal_X5_isHalf t_275 rfl ⟨by decide, by decide⟩ hw (w' := List.flatten [wX cy xx0 nw0 ps0 kp0 kq0 tr0 tp0 hs0 xx_isKept, wT cy nw0 nw1 nw2 ng0 nw_people nw_fewest nw_kinds nw_loves, wG cy ng0 ng1 ng2 ng3 ng_many ng_sets ng_chalk ng_wet ng_harvest ng_draw, wP cy ps0 ps1 ps_known ps_r0 ps_r1 ps_r2 ps_r3 ps_many ps_sets ps_chalk ps_wet ps_harvest ps_draw]) Cut.nil hl.1 (Nat.le_of_ble_eq_true rfl) rfl dX5_sell_13 (fun H locs hw => ?_)
    refine lv_if_eq (tgt := 30) hx hb dX5_sell_16 (by decide) (fun c6 => ?_) (fun c6 => ?_)
    · rw [if_pos c6] at h33
      refine lv_iconst (v := (-1)) hx hb dX5_sell_30 (by decide) ?_
      obtain ⟨rfl, rfl, rfl, rfl, rfl, rfl, rfl, rfl, rfl, rfl, rfl, rfl, rfl, rfl, rfl⟩ := inj15 h33
      exact hret _ _ _ _ hw dX5_sell_31
    · rw [if_neg c6] at h33
      refine lv_iload hx hb dX5_sell_19 (lv_at hl 4 rfl) ?_
      refine lv_iconst (v := 0) hx hb dX5_sell_21 (by decide) ?_
      refine lv_bipush (v := 99) hx hb dX5_sell_22 (by decide) ?_
      obtain ⟨r7, k8, h34⟩ := ob1 h33
      clear h33
      refine g_si F (cX5_isWithin_ok l d cy i4 0 99 r7 k8) cal_X5_isWithin t_214 rfl ⟨by decide, by decide⟩ hw (w' := List.flatten [wX cy xx0 nw0 ps0 kp0 kq0 tr0 tp0 hs0 xx_isKept, wT cy nw0 nw1 nw2 ng0 nw_people nw_fewest nw_kinds nw_loves, wG cy ng0 ng1 ng2 ng3 ng_many ng_sets ng_chalk ng_wet ng_harvest ng_draw, wP cy ps0 ps1 ps_known ps_r0 ps_r1 ps_r2 ps_r3 ps_many ps_sets ps_chalk ps_wet ps_harvest ps_draw]) Cut.nil hl.1 (Nat.le_of_ble_eq_true rfl) rfl dX5_sell_24 (fun H locs hw => ?_)
      refine lv_if_ne (tgt := 32) hx hb dX5_sell_27 (by decide) (fun c9 => ?_) (fun c9 => ?_)
      · rw [if_neg c9] at h34
        refine lv_aload_n hx hb dX5_sell_32 rfl (lv_at hl 0 rfl) ?_
        refine g_get F inG5 hw 0 rfl rfl 0 (by decide) t_185 (fun _ h9 => h9) rfl dX5_sell_33 ?_
        refine lv_iload_n hx hb dX5_sell_36 rfl (lv_at hl 1 rfl) ?_
        refine lv_iload_n hx hb dX5_sell_37 rfl (lv_at hl 2 rfl) ?_
        refine lv_iload_n hx hb dX5_sell_38 rfl (lv_at hl 3 rfl) ?_
        refine lv_iload hx hb dX5_sell_39 (lv_at hl 4 rfl) ?_
        obtain ⟨r10, k11, h35⟩ := ob1 h34
        clear h34
        refine g_vi F (cX4_maySell_ok l d cy nw0 nw1 nw2 ng0 ng1 ng2 ng3 nw_people nw_fewest nw_kinds nw_loves ng_many ng_sets ng_chalk ng_wet ng_harvest ng_draw i1 i2 i3 i4 r10 k11) cal_X4_maySell t_477 rfl ⟨by decide, by decide⟩ hw (w' := List.flatten [wX cy xx0 nw0 ps0 kp0 kq0 tr0 tp0 hs0 xx_isKept, wT cy nw0 nw1 nw2 ng0 nw_people nw_fewest nw_kinds nw_loves, wG cy ng0 ng1 ng2 ng3 ng_many ng_sets ng_chalk ng_wet ng_harvest ng_draw, wP cy ps0 ps1 ps_known ps_r0 ps_r1 ps_r2 ps_r3 ps_many ps_sets ps_chalk ps_wet ps_harvest ps_draw]) (SCut.cut (SCut.skip (SCut.take SCut.rf (SCut.take SCut.rf (SCut.skip SCut.none))))) 0 4 rfl rfl hl.1 (Nat.le_of_ble_eq_true rfl) rfl dX5_sell_41 (fun H locs hw => ?_)
        refine lv_if_ne (tgt := 50) hx hb dX5_sell_44 (by decide) (fun c12 => ?_) (fun c12 => ?_)
        · rw [if_neg c12] at h35
          refine lv_aload_n hx hb dX5_sell_50 rfl (lv_at hl 0 rfl) ?_
          refine g_get F inG5 hw 0 rfl rfl 1 (by decide) t_186 (fun _ h9 => h9) rfl dX5_sell_51 ?_
          refine lv_aload_n hx hb dX5_sell_54 rfl (lv_at hl 0 rfl) ?_
          refine g_get F inG5 hw 0 rfl rfl 0 (by decide) t_185 (fun _ h9 => h9) rfl dX5_sell_55 ?_
          refine g_get F inG4 hw 1 rfl rfl 4 (by decide) t_116 (fun _ h9 => h9) rfl dX5_sell_58 ?_
          obtain ⟨x13, f14, f15, f16, f17, f18, f19, f20, f21, f22, f23, k24, h36⟩ := ob11 h35
          clear h35
          refine g_vv F (cX1_remember_ok l d cy ps0 ps1 ng0 ng1 ng2 ng3 ps_known ps_r0 ps_r1 ps_r2 ps_r3 ps_many ps_sets ps_chalk ps_wet ps_harvest ps_draw ng_many ng_sets ng_chalk ng_wet ng_harvest ng_draw x13 f14 f15 f16 f17 f18 f19 f20 f21 f22 f23 k24) cal_X1_remember t_488 rfl ⟨by decide, by decide⟩ hw (w' := List.flatten [wX cy xx0 nw0 ps0 kp0 kq0 tr0 tp0 hs0 xx_isKept, wT cy nw0 nw1 nw2 ng0 nw_people nw_fewest nw_kinds nw_loves, wG cy ng0 ng1 ng2 ng3 ng_many ng_sets ng_chalk ng_wet ng_harvest ng_draw, wP cy ps0 ps1 x13 f14 f15 f16 f17 f18 f19 f20 f21 f22 f23]) (SCut.cut (SCut.ord [_, _] [_, _] [1, 0] (show List.Perm [1, 0] (List.range 2) by decide) rfl (SCut.skip (SCut.skip (SCut.take SCut.rf (SCut.take SCut.rf SCut.none)))))) 0 1 rfl rfl hl.1 (Nat.le_of_ble_eq_true rfl) rfl dX5_sell_61 (fun H locs hw => ?_)
          refine lv_aload_n hx hb dX5_sell_64 rfl (lv_at hl 0 rfl) ?_
          refine g_get F inG5 hw 0 rfl rfl 0 (by decide) t_185 (fun _ h9 => h9) rfl dX5_sell_65 ?_
          refine g_get F inG4 hw 1 rfl rfl 4 (by decide) t_116 (fun _ h9 => h9) rfl dX5_sell_68 ?_
          refine lv_iload_n hx hb dX5_sell_71 rfl (lv_at hl 1 rfl) ?_
          refine lv_iload_n hx hb dX5_sell_72 rfl (lv_at hl 2 rfl) ?_
          refine lv_iload_n hx hb dX5_sell_73 rfl (lv_at hl 3 rfl) ?_
          obtain ⟨f25, f26, k27, h37⟩ := ob2 h36
          clear h36
          refine g_vv F (cX0_move_ok l d cy ng0 ng1 ng2 ng3 ng_many ng_sets ng_chalk ng_wet ng_harvest ng_draw i1 i2 i3 f25 f26 k27) cal_X0_move t_497 rfl ⟨by decide, by decide⟩ hw (w' := List.flatten [wX cy xx0 nw0 ps0 kp0 kq0 tr0 tp0 hs0 xx_isKept, wT cy nw0 nw1 nw2 ng0 nw_people nw_fewest nw_kinds nw_loves, wG cy ng0 ng1 ng2 ng3 f25 f26 ng_chalk ng_wet ng_harvest ng_draw, wP cy ps0 ps1 x13 f14 f15 f16 f17 f18 f19 f20 f21 f22 f23]) (SCut.cut (SCut.one (SCut.skip (SCut.skip (SCut.take SCut.rf (SCut.skip SCut.none)))))) 0 0 rfl rfl hl.1 (Nat.le_of_ble_eq_true rfl) rfl dX5_sell_74 (fun H locs hw => ?_)
          refine lv_aload_n hx hb dX5_sell_77 rfl (lv_at hl 0 rfl) ?_
          refine g_get F inG5 hw 0 rfl rfl 0 (by decide) t_185 (fun _ h9 => h9) rfl dX5_sell_78 ?_
          refine g_get F inG4 hw 1 rfl rfl 4 (by decide) t_116 (fun _ h9 => h9) rfl dX5_sell_81 ?_
          refine lv_iload_n hx hb dX5_sell_84 rfl (lv_at hl 2 rfl) ?_
          refine lv_iload_n hx hb dX5_sell_85 rfl (lv_at hl 1 rfl) ?_
          refine lv_iload hx hb dX5_sell_86 (lv_at hl 4 rfl) ?_
          obtain ⟨f28, k29, h38⟩ := ob1 h37
          clear h37
          refine g_vv F (cX0_pay_ok l d cy ng0 ng1 ng2 ng3 f25 f26 ng_chalk ng_wet ng_harvest ng_draw i2 i1 i4 f28 k29) cal_X0_pay t_502 rfl ⟨by decide, by decide⟩ hw (w' := List.flatten [wX cy xx0 nw0 ps0 kp0 kq0 tr0 tp0 hs0 xx_isKept, wT cy nw0 nw1 nw2 ng0 nw_people nw_fewest nw_kinds nw_loves, wG cy ng0 ng1 ng2 ng3 f25 f26 f28 ng_wet ng_harvest ng_draw, wP cy ps0 ps1 x13 f14 f15 f16 f17 f18 f19 f20 f21 f22 f23]) (SCut.cut (SCut.one (SCut.skip (SCut.skip (SCut.take SCut.rf (SCut.skip SCut.none)))))) 0 0 rfl rfl hl.1 (Nat.le_of_ble_eq_true rfl) rfl dX5_sell_88 (fun H locs hw => ?_)
          refine lv_aload_n hx hb dX5_sell_91 rfl (lv_at hl 0 rfl) ?_
          refine g_get F inG5 hw 0 rfl rfl 0 (by decide) t_185 (fun _ h9 => h9) rfl dX5_sell_92 ?_
          refine g_get F inG4 hw 1 rfl rfl 4 (by decide) t_116 (fun _ h9 => h9) rfl dX5_sell_95 ?_
          refine g_get F inG0 hw 4 rfl rfl 2 (by decide) t_78 (fun _ h9 => h9) rfl dX5_sell_98 ?_
          refine lv_iload_n hx hb dX5_sell_101 rfl (lv_at hl 1 rfl) ?_
          obtain ⟨j30, k31, h39⟩ := ob1 h38
          clear h38
          refine g_iald F hw 7 rfl k31 dX5_sell_102 ?_
          obtain ⟨rfl, rfl, rfl, rfl, rfl, rfl, rfl, rfl, rfl, rfl, rfl, rfl, rfl, rfl, rfl⟩ := inj15 h39
          exact hret _ _ _ _ hw dX5_sell_103
        · rw [if_pos c12] at h35
          refine lv_bipush (v := (-2)) hx hb dX5_sell_47 (by decide) ?_
          obtain ⟨rfl, rfl, rfl, rfl, rfl, rfl, rfl, rfl, rfl, rfl, rfl, rfl, rfl, rfl, rfl⟩ := inj15 h35
          exact hret _ _ _ _ hw dX5_sell_49
      · rw [if_pos c9] at h34
        refine lv_iconst (v := (-1)) hx hb dX5_sell_30 (by decide) ?_
        obtain ⟨rfl, rfl, rfl, rfl, rfl, rfl, rfl, rfl, rfl, rfl, rfl, rfl, rfl, rfl, rfl⟩ := inj15 h34
        exact hret _ _ _ _ hw dX5_sell_31
theorem cal_X5_seize : CalV yX5_seize cX5_seize 4 (some .int) RX5 2 := ⟨t_509, t_507, t_508, t_37, by decide +kernel⟩
set_option maxHeartbeats 4000000 in
set_option maxRecDepth 100000 in
theorem cX5_seize_ok (l : Launch) (d : va_G) (cy : Nat → ClassId) (xx0 nw0 nw1 nw2 ng0 ng1 ng2 ng3 ps0 ps1 kp0 kq0 tr0 tp0 hs0 : Nat) (xx_isKept : Int32) (nw_people : Int32) (nw_fewest : Int32) (nw_kinds : Nat → Int32) (nw_loves : Nat → Int32) (ng_many : Nat → Int32) (ng_sets : Nat → Int32) (ng_chalk : Nat → Int32) (ng_wet : Int32) (ng_harvest : Int32) (ng_draw : Int32) (ps_known : Int32) (ps_r0 : Nat → Nat) (ps_r1 : Nat → Nat) (ps_r2 : Nat → Nat) (ps_r3 : Nat → Nat) (ps_many : Nat → Nat → Int32) (ps_sets : Nat → Nat → Int32) (ps_chalk : Nat → Nat → Int32) (ps_wet : Nat → Int32) (ps_harvest : Nat → Int32) (ps_draw : Nat → Int32) (i1 : Int32) (i2 : Int32) (r : Int32) (ng_many_r : Nat → Int32) (ng_sets_r : Nat → Int32) (ps_known_r : Int32) (ps_r0_r : Nat → Nat) (ps_r1_r : Nat → Nat) (ps_r2_r : Nat → Nat) (ps_r3_r : Nat → Nat) (ps_many_r : Nat → Nat → Int32) (ps_sets_r : Nat → Nat → Int32) (ps_chalk_r : Nat → Nat → Int32) (ps_wet_r : Nat → Int32) (ps_harvest_r : Nat → Int32) (ps_draw_r : Nat → Int32) (h0 : fX5_seize nw_people nw_kinds nw_loves ng_many ng_sets ng_chalk ng_wet ng_harvest ng_draw ps_known ps_r0 ps_r1 ps_r2 ps_r3 ps_many ps_sets ps_chalk ps_wet ps_harvest ps_draw i1 i2 = some (r, ng_many_r, ng_sets_r, ps_known_r, ps_r0_r, ps_r1_r, ps_r2_r, ps_r3_r, ps_many_r, ps_sets_r, ps_chalk_r, ps_wet_r, ps_harvest_r, ps_draw_r)) : CI l yX5_seize cX5_seize 4 (some .int) 4 102 d cy [.ref xx0, .int i1, .int i2] (List.flatten [wX cy xx0 nw0 ps0 kp0 kq0 tr0 tp0 hs0 xx_isKept, wT cy nw0 nw1 nw2 ng0 nw_people nw_fewest nw_kinds nw_loves, wG cy ng0 ng1 ng2 ng3 ng_many ng_sets ng_chalk ng_wet ng_harvest ng_draw, wP cy ps0 ps1 ps_known ps_r0 ps_r1 ps_r2 ps_r3 ps_many ps_sets ps_chalk ps_wet ps_harvest ps_draw]) (List.flatten [wX cy xx0 nw0 ps0 kp0 kq0 tr0 tp0 hs0 xx_isKept, wT cy nw0 nw1 nw2 ng0 nw_people nw_fewest nw_kinds nw_loves, wG cy ng0 ng1 ng2 ng3 ng_many_r ng_sets_r ng_chalk ng_wet ng_harvest ng_draw, wP cy ps0 ps1 ps_known_r ps_r0_r ps_r1_r ps_r2_r ps_r3_r ps_many_r ps_sets_r ps_chalk_r ps_wet_r ps_harvest_r ps_draw_r]) r := by
  refine CI.of (by decide) (Nat.le_of_ble_eq_true rfl) ?_
  intro p e s m args below meth c A ls Q F hret hw hl
  have hx := F.1
  have hb := F.2.1
  have hl : lv_has ls 4 [(0, .ref xx0), (1, .int i1), (2, .int i2)] := hl
  rw [fX5_seize] at h0
  refine lv_aload_n hx hb dX5_seize_0 rfl (lv_at hl 0 rfl) ?_
  refine g_get F inG5 hw 0 rfl rfl 0 (by decide) t_185 (fun _ h9 => h9) rfl dX5_seize_1 ?_
  refine lv_iload_n hx hb dX5_seize_4 rfl (lv_at hl 1 rfl) ?_
  refine lv_iload_n hx hb dX5_seize_5 rfl (lv_at hl 2 rfl) ?_
  obtain ⟨r1, k2, h22⟩ := ob1 h0
  clear h0
  refine g_vi F (cX4_areTwo_ok l d cy nw0 nw1 nw2 ng0 ng1 ng2 ng3 nw_people nw_fewest nw_kinds nw_loves ng_many ng_sets ng_chalk ng_wet ng_harvest ng_draw i1 i2 r1 k2) cal_X4_areTwo t_472 rfl ⟨by decide, by decide⟩ hw (w' := List.flatten [wX cy xx0 nw0 ps0 kp0 kq0 tr0 tp0 hs0 xx_isKept, wT cy nw0 nw1 nw2 ng0 nw_people nw_fewest nw_kinds nw_loves, wG cy ng0 ng1 ng2 ng3 ng_many ng_sets ng_chalk ng_wet ng_harvest ng_draw, wP cy ps0 ps1 ps_known ps_r0 ps_r1 ps_r2 ps_r3 ps_many ps_sets ps_chalk ps_wet ps_harvest ps_draw]) (SCut.cut (SCut.skip (SCut.take SCut.rf (SCut.take SCut.rf (SCut.skip SCut.none))))) 0 4 rfl rfl hl.1 (Nat.le_of_ble_eq_true rfl) rfl dX5_seize_6 (fun H locs hw => ?_)
  refine lv_if_ne (tgt := 14) hx hb dX5_seize_9 (by decide) (fun c3 => ?_) (fun c3 => ?_)
  · rw [if_neg c3] at h22
    refine lv_aload_n hx hb dX5_seize_14 rfl (lv_at hl 0 rfl) ?_
    refine g_get F inG5 hw 0 rfl rfl 0 (by decide) t_185 (fun _ h9 => h9) rfl dX5_seize_15 ?_
    refine lv_iload_n hx hb dX5_seize_18 rfl (lv_at hl 1 rfl) ?_
    obtain ⟨r4, k5, h23⟩ := ob1 h22
    clear h22
    refine g_vi F (cX4_dearestHalf_ok l d cy nw0 nw1 nw2 ng0 ng1 ng2 ng3 nw_people nw_fewest nw_kinds nw_loves ng_many ng_sets ng_chalk ng_wet ng_harvest ng_draw i1 r4 k5) cal_X4_dearestHalf t_510 rfl ⟨by decide, by decide⟩ hw (w' := List.flatten [wX cy xx0 nw0 ps0 kp0 kq0 tr0 tp0 hs0 xx_isKept, wT cy nw0 nw1 nw2 ng0 nw_people nw_fewest nw_kinds nw_loves, wG cy ng0 ng1 ng2 ng3 ng_many ng_sets ng_chalk ng_wet ng_harvest ng_draw, wP cy ps0 ps1 ps_known ps_r0 ps_r1 ps_r2 ps_r3 ps_many ps_sets ps_chalk ps_wet ps_harvest ps_draw]) (SCut.cut (SCut.skip (SCut.take SCut.rf (SCut.take SCut.rf (SCut.skip SCut.none))))) 0 4 rfl rfl hl.1 (Nat.le_of_ble_eq_true rfl) rfl dX5_seize_19 (fun H locs hw => ?_)
    refine lv_istore_n (lv' := [(3, .int r4), (0, .ref xx0), (1, .int i1), (2, .int i2)]) hx hb dX5_seize_22 rfl hl (by decide) rfl (fun ls hl => ?_)
    refine lv_iload_n hx hb dX5_seize_23 rfl (lv_at hl 0 rfl) ?_
    refine lv_bipush (v := (-4)) hx hb dX5_seize_24 (by decide) ?_
    refine lv_icmp_ne (tgt := 32) hx hb dX5_seize_26 (by decide) (fun c6 => ?_) (fun c6 => ?_)
    · rw [if_neg c6] at h23
      refine lv_aload_n hx hb dX5_seize_32 rfl (lv_at hl 1 rfl) ?_
      refine g_get F inG5 hw 0 rfl rfl 1 (by decide) t_186 (fun _ h9 => h9) rfl dX5_seize_33 ?_
      refine lv_aload_n hx hb dX5_seize_36 rfl (lv_at hl 1 rfl) ?_
      refine g_get F inG5 hw 0 rfl rfl 0 (by decide) t_185 (fun _ h9 => h9) rfl dX5_seize_37 ?_
      refine g_get F inG4 hw 1 rfl rfl 4 (by decide) t_116 (fun _ h9 => h9) rfl dX5_seize_40 ?_
      obtain ⟨x7, f8, f9, f10, f11, f12, f13, f14, f15, f16, f17, k18, h24⟩ := ob11 h23
      clear h23
      refine g_vv F (cX1_remember_ok l d cy ps0 ps1 ng0 ng1 ng2 ng3 ps_known ps_r0 ps_r1 ps_r2 ps_r3 ps_many ps_sets ps_chalk ps_wet ps_harvest ps_draw ng_many ng_sets ng_chalk ng_wet ng_harvest ng_draw x7 f8 f9 f10 f11 f12 f13 f14 f15 f16 f17 k18) cal_X1_remember t_488 rfl ⟨by decide, by decide⟩ hw (w' := List.flatten [wX cy xx0 nw0 ps0 kp0 kq0 tr0 tp0 hs0 xx_isKept, wT cy nw0 nw1 nw2 ng0 nw_people nw_fewest nw_kinds nw_loves, wG cy ng0 ng1 ng2 ng3 ng_many ng_sets ng_chalk ng_wet ng_harvest ng_draw, wP cy ps0 ps1 x7 f8 f9 f10 f11 f12 f13 f14 f15 f16 f17]) (SCut.cut (SCut.ord [_, _] [_, _] [1, 0] (show List.Perm [1, 0] (List.range 2) by decide) rfl (SCut.skip (SCut.skip (SCut.take SCut.rf (SCut.take SCut.rf SCut.none)))))) 0 1 rfl rfl hl.1 (Nat.le_of_ble_eq_true rfl) rfl dX5_seize_43 (fun H locs hw => ?_)
      refine lv_aload_n hx hb dX5_seize_46 rfl (lv_at hl 1 rfl) ?_
      refine g_get F inG5 hw 0 rfl rfl 0 (by decide) t_185 (fun _ h9 => h9) rfl dX5_seize_47 ?_
      refine g_get F inG4 hw 1 rfl rfl 4 (by decide) t_116 (fun _ h9 => h9) rfl dX5_seize_50 ?_
      refine lv_iload_n hx hb dX5_seize_53 rfl (lv_at hl 2 rfl) ?_
      refine lv_iload_n hx hb dX5_seize_54 rfl (lv_at hl 3 rfl) ?_
      refine lv_iload_n hx hb dX5_seize_55 rfl (lv_at hl 0 rfl) ?_
      obtain ⟨f19, f20, k21, h25⟩ := ob2 h24
      clear h24
      refine g_vv F (cX0_move_ok l d cy ng0 ng1 ng2 ng3 ng_many ng_sets ng_chalk ng_wet ng_harvest ng_draw i1 i2 r4 f19 f20 k21) cal_X0_move t_497 rfl ⟨by decide, by decide⟩ hw (w' := List.flatten [wX cy xx0 nw0 ps0 kp0 kq0 tr0 tp0 hs0 xx_isKept, wT cy nw0 nw1 nw2 ng0 nw_people nw_fewest nw_kinds nw_loves, wG cy ng0 ng1 ng2 ng3 f19 f20 ng_chalk ng_wet ng_harvest ng_draw, wP cy ps0 ps1 x7 f8 f9 f10 f11 f12 f13 f14 f15 f16 f17]) (SCut.cut (SCut.one (SCut.skip (SCut.skip (SCut.take SCut.rf (SCut.skip SCut.none)))))) 0 0 rfl rfl hl.1 (Nat.le_of_ble_eq_true rfl) rfl dX5_seize_56 (fun H locs hw => ?_)
      refine lv_iload_n hx hb dX5_seize_59 rfl (lv_at hl 0 rfl) ?_
      obtain ⟨rfl, rfl, rfl, rfl, rfl, rfl, rfl, rfl, rfl, rfl, rfl, rfl, rfl, rfl⟩ := inj14 h25
      exact hret _ _ _ _ hw dX5_seize_60
    · rw [if_pos c6] at h23
      refine lv_bipush (v := (-2)) hx hb dX5_seize_29 (by decide) ?_
      obtain ⟨rfl, rfl, rfl, rfl, rfl, rfl, rfl, rfl, rfl, rfl, rfl, rfl, rfl, rfl⟩ := inj14 h23
      exact hret _ _ _ _ hw dX5_seize_31
  · rw [if_pos c3] at h22
    refine lv_iconst (v := (-1)) hx hb dX5_seize_12 (by decide) ?_
    obtain ⟨rfl, rfl, rfl, rfl, rfl, rfl, rfl, rfl, rfl, rfl, rfl, rfl, rfl, rfl⟩ := inj14 h22
    exact hret _ _ _ _ hw dX5_seize_13
theorem cal_X5_give : CalV yX5_give cX5_give 4 (some .int) RX5 3 := ⟨t_518, t_516, t_517, t_37, by decide +kernel⟩
set_option maxHeartbeats 4000000 in
set_option maxRecDepth 100000 in
theorem cX5_give_ok (l : Launch) (d : va_G) (cy : Nat → ClassId) (xx0 nw0 nw1 nw2 ng0 ng1 ng2 ng3 ps0 ps1 kp0 kq0 tr0 tp0 hs0 : Nat) (xx_isKept : Int32) (nw_people : Int32) (nw_fewest : Int32) (nw_kinds : Nat → Int32) (nw_loves : Nat → Int32) (ng_many : Nat → Int32) (ng_sets : Nat → Int32) (ng_chalk : Nat → Int32) (ng_wet : Int32) (ng_harvest : Int32) (ng_draw : Int32) (ps_known : Int32) (ps_r0 : Nat → Nat) (ps_r1 : Nat → Nat) (ps_r2 : Nat → Nat) (ps_r3 : Nat → Nat) (ps_many : Nat → Nat → Int32) (ps_sets : Nat → Nat → Int32) (ps_chalk : Nat → Nat → Int32) (ps_wet : Nat → Int32) (ps_harvest : Nat → Int32) (ps_draw : Nat → Int32) (i1 : Int32) (i2 : Int32) (i3 : Int32) (r : Int32) (ng_chalk_r : Nat → Int32) (ps_known_r : Int32) (ps_r0_r : Nat → Nat) (ps_r1_r : Nat → Nat) (ps_r2_r : Nat → Nat) (ps_r3_r : Nat → Nat) (ps_many_r : Nat → Nat → Int32) (ps_sets_r : Nat → Nat → Int32) (ps_chalk_r : Nat → Nat → Int32) (ps_wet_r : Nat → Int32) (ps_harvest_r : Nat → Int32) (ps_draw_r : Nat → Int32) (h0 : fX5_give nw_people ng_many ng_sets ng_chalk ng_wet ng_harvest ng_draw ps_known ps_r0 ps_r1 ps_r2 ps_r3 ps_many ps_sets ps_chalk ps_wet ps_harvest ps_draw i1 i2 i3 = some (r, ng_chalk_r, ps_known_r, ps_r0_r, ps_r1_r, ps_r2_r, ps_r3_r, ps_many_r, ps_sets_r, ps_chalk_r, ps_wet_r, ps_harvest_r, ps_draw_r)) : CI l yX5_give cX5_give 4 (some .int) 3 102 d cy [.ref xx0, .int i1, .int i2, .int i3] (List.flatten [wX cy xx0 nw0 ps0 kp0 kq0 tr0 tp0 hs0 xx_isKept, wT cy nw0 nw1 nw2 ng0 nw_people nw_fewest nw_kinds nw_loves, wG cy ng0 ng1 ng2 ng3 ng_many ng_sets ng_chalk ng_wet ng_harvest ng_draw, wP cy ps0 ps1 ps_known ps_r0 ps_r1 ps_r2 ps_r3 ps_many ps_sets ps_chalk ps_wet ps_harvest ps_draw]) (List.flatten [wX cy xx0 nw0 ps0 kp0 kq0 tr0 tp0 hs0 xx_isKept, wT cy nw0 nw1 nw2 ng0 nw_people nw_fewest nw_kinds nw_loves, wG cy ng0 ng1 ng2 ng3 ng_many ng_sets ng_chalk_r ng_wet ng_harvest ng_draw, wP cy ps0 ps1 ps_known_r ps_r0_r ps_r1_r ps_r2_r ps_r3_r ps_many_r ps_sets_r ps_chalk_r ps_wet_r ps_harvest_r ps_draw_r]) r := by
  refine CI.of (by decide) (Nat.le_of_ble_eq_true rfl) ?_
  intro p e s m args below meth c A ls Q F hret hw hl
  have hx := F.1
  have hb := F.2.1
  have hl : lv_has ls 4 [(0, .ref xx0), (1, .int i1), (2, .int i2), (3, .int i3)] := hl
  rw [fX5_give] at h0
  refine lv_aload_n hx hb dX5_give_0 rfl (lv_at hl 0 rfl) ?_
  refine g_get F inG5 hw 0 rfl rfl 0 (by decide) t_185 (fun _ h9 => h9) rfl dX5_give_1 ?_
  refine lv_iload_n hx hb dX5_give_4 rfl (lv_at hl 1 rfl) ?_
  refine lv_iload_n hx hb dX5_give_5 rfl (lv_at hl 2 rfl) ?_
  obtain ⟨r1, k2, h24⟩ := ob1 h0
  clear h0
  refine g_vi F (cX4_areTwo_ok l d cy nw0 nw1 nw2 ng0 ng1 ng2 ng3 nw_people nw_fewest nw_kinds nw_loves ng_many ng_sets ng_chalk ng_wet ng_harvest ng_draw i1 i2 r1 k2) cal_X4_areTwo t_472 rfl ⟨by decide, by decide⟩ hw (w' := List.flatten [wX cy xx0 nw0 ps0 kp0 kq0 tr0 tp0 hs0 xx_isKept, wT cy nw0 nw1 nw2 ng0 nw_people nw_fewest nw_kinds nw_loves, wG cy ng0 ng1 ng2 ng3 ng_many ng_sets ng_chalk ng_wet ng_harvest ng_draw, wP cy ps0 ps1 ps_known ps_r0 ps_r1 ps_r2 ps_r3 ps_many ps_sets ps_chalk ps_wet ps_harvest ps_draw]) (SCut.cut (SCut.skip (SCut.take SCut.rf (SCut.take SCut.rf (SCut.skip SCut.none))))) 0 4 rfl rfl hl.1 (Nat.le_of_ble_eq_true rfl) rfl dX5_give_6 (fun H locs hw => ?_)
  refine lv_if_eq (tgt := 22) hx hb dX5_give_9 (by decide) (fun c3 => ?_) (fun c3 => ?_)
  · rw [if_pos c3] at h24
    refine lv_iconst (v := (-1)) hx hb dX5_give_22 (by decide) ?_
    obtain ⟨rfl, rfl, rfl, rfl, rfl, rfl, rfl, rfl, rfl, rfl, rfl, rfl, rfl⟩ := inj13 h24
    exact hret _ _ _ _ hw dX5_give_23
  · rw [if_neg c3] at h24
    refine lv_iload_n hx hb dX5_give_12 rfl (lv_at hl 3 rfl) ?_
    refine lv_iconst (v := 1) hx hb dX5_give_13 (by decide) ?_
    refine lv_bipush (v := 99) hx hb dX5_give_14 (by decide) ?_
    obtain ⟨r4, k5, h25⟩ := ob1 h24
    clear h24
    refine g_si F (cX5_isWithin_ok l d cy i3 1 99 r4 k5) cal_X5_isWithin t_214 rfl ⟨by decide, by decide⟩ hw (w' := List.flatten [wX cy xx0 nw0 ps0 kp0 kq0 tr0 tp0 hs0 xx_isKept, wT cy nw0 nw1 nw2 ng0 nw_people nw_fewest nw_kinds nw_loves, wG cy ng0 ng1 ng2 ng3 ng_many ng_sets ng_chalk ng_wet ng_harvest ng_draw, wP cy ps0 ps1 ps_known ps_r0 ps_r1 ps_r2 ps_r3 ps_many ps_sets ps_chalk ps_wet ps_harvest ps_draw]) Cut.nil hl.1 (Nat.le_of_ble_eq_true rfl) rfl dX5_give_16 (fun H locs hw => ?_)
    refine lv_if_ne (tgt := 24) hx hb dX5_give_19 (by decide) (fun c6 => ?_) (fun c6 => ?_)
    · rw [if_neg c6] at h25
      refine lv_aload_n hx hb dX5_give_24 rfl (lv_at hl 0 rfl) ?_
      refine g_get F inG5 hw 0 rfl rfl 0 (by decide) t_185 (fun _ h9 => h9) rfl dX5_give_25 ?_
      refine g_get F inG4 hw 1 rfl rfl 4 (by decide) t_116 (fun _ h9 => h9) rfl dX5_give_28 ?_
      refine g_get F inG0 hw 4 rfl rfl 2 (by decide) t_78 (fun _ h9 => h9) rfl dX5_give_31 ?_
      refine lv_iload_n hx hb dX5_give_34 rfl (lv_at hl 1 rfl) ?_
      obtain ⟨j7, k8, h26⟩ := ob1 h25
      clear h25
      refine g_iald F hw 7 rfl k8 dX5_give_35 ?_
      refine lv_iload_n hx hb dX5_give_36 rfl (lv_at hl 3 rfl) ?_
      refine lv_icmp_ge (tgt := 43) hx hb dX5_give_37 (by decide) (fun c9 => ?_) (fun c9 => ?_)
      · rw [if_pos c9] at h26
        refine lv_aload_n hx hb dX5_give_43 rfl (lv_at hl 0 rfl) ?_
        refine g_get F inG5 hw 0 rfl rfl 1 (by decide) t_186 (fun _ h9 => h9) rfl dX5_give_44 ?_
        refine lv_aload_n hx hb dX5_give_47 rfl (lv_at hl 0 rfl) ?_
        refine g_get F inG5 hw 0 rfl rfl 0 (by decide) t_185 (fun _ h9 => h9) rfl dX5_give_48 ?_
        refine g_get F inG4 hw 1 rfl rfl 4 (by decide) t_116 (fun _ h9 => h9) rfl dX5_give_51 ?_
        obtain ⟨x10, f11, f12, f13, f14, f15, f16, f17, f18, f19, f20, k21, h27⟩ := ob11 h26
        clear h26
        refine g_vv F (cX1_remember_ok l d cy ps0 ps1 ng0 ng1 ng2 ng3 ps_known ps_r0 ps_r1 ps_r2 ps_r3 ps_many ps_sets ps_chalk ps_wet ps_harvest ps_draw ng_many ng_sets ng_chalk ng_wet ng_harvest ng_draw x10 f11 f12 f13 f14 f15 f16 f17 f18 f19 f20 k21) cal_X1_remember t_488 rfl ⟨by decide, by decide⟩ hw (w' := List.flatten [wX cy xx0 nw0 ps0 kp0 kq0 tr0 tp0 hs0 xx_isKept, wT cy nw0 nw1 nw2 ng0 nw_people nw_fewest nw_kinds nw_loves, wG cy ng0 ng1 ng2 ng3 ng_many ng_sets ng_chalk ng_wet ng_harvest ng_draw, wP cy ps0 ps1 x10 f11 f12 f13 f14 f15 f16 f17 f18 f19 f20]) (SCut.cut (SCut.ord [_, _] [_, _] [1, 0] (show List.Perm [1, 0] (List.range 2) by decide) rfl (SCut.skip (SCut.skip (SCut.take SCut.rf (SCut.take SCut.rf SCut.none)))))) 0 1 rfl rfl hl.1 (Nat.le_of_ble_eq_true rfl) rfl dX5_give_54 (fun H locs hw => ?_)
        refine lv_aload_n hx hb dX5_give_57 rfl (lv_at hl 0 rfl) ?_
        refine g_get F inG5 hw 0 rfl rfl 0 (by decide) t_185 (fun _ h9 => h9) rfl dX5_give_58 ?_
        refine g_get F inG4 hw 1 rfl rfl 4 (by decide) t_116 (fun _ h9 => h9) rfl dX5_give_61 ?_
        refine lv_iload_n hx hb dX5_give_64 rfl (lv_at hl 1 rfl) ?_
        refine lv_iload_n hx hb dX5_give_65 rfl (lv_at hl 2 rfl) ?_
        refine lv_iload_n hx hb dX5_give_66 rfl (lv_at hl 3 rfl) ?_
        obtain ⟨f22, k23, h28⟩ := ob1 h27
        clear h27
        refine g_vv F (cX0_pay_ok l d cy ng0 ng1 ng2 ng3 ng_many ng_sets ng_chalk ng_wet ng_harvest ng_draw i1 i2 i3 f22 k23) cal_X0_pay t_502 rfl ⟨by decide, by decide⟩ hw (w' := List.flatten [wX cy xx0 nw0 ps0 kp0 kq0 tr0 tp0 hs0 xx_isKept, wT cy nw0 nw1 nw2 ng0 nw_people nw_fewest nw_kinds nw_loves, wG cy ng0 ng1 ng2 ng3 ng_many ng_sets f22 ng_wet ng_harvest ng_draw, wP cy ps0 ps1 x10 f11 f12 f13 f14 f15 f16 f17 f18 f19 f20]) (SCut.cut (SCut.one (SCut.skip (SCut.skip (SCut.take SCut.rf (SCut.skip SCut.none)))))) 0 0 rfl rfl hl.1 (Nat.le_of_ble_eq_true rfl) rfl dX5_give_67 (fun H locs hw => ?_)
        refine lv_aload_n hx hb dX5_give_70 rfl (lv_at hl 0 rfl) ?_
        refine g_get F inG5 hw 0 rfl rfl 0 (by decide) t_185 (fun _ h9 => h9) rfl dX5_give_71 ?_
        refine g_get F inG4 hw 1 rfl rfl 4 (by decide) t_116 (fun _ h9 => h9) rfl dX5_give_74 ?_
        refine g_get F inG0 hw 4 rfl rfl 2 (by decide) t_78 (fun _ h9 => h9) rfl dX5_give_77 ?_
        refine lv_iload_n hx hb dX5_give_80 rfl (lv_at hl 1 rfl) ?_
        refine g_iald F hw 7 rfl k8 dX5_give_81 ?_
        obtain ⟨rfl, rfl, rfl, rfl, rfl, rfl, rfl, rfl, rfl, rfl, rfl, rfl, rfl⟩ := inj13 h28
        exact hret _ _ _ _ hw dX5_give_82
      · rw [if_neg c9] at h26
        refine lv_bipush (v := (-2)) hx hb dX5_give_40 (by decide) ?_
        obtain ⟨rfl, rfl, rfl, rfl, rfl, rfl, rfl, rfl, rfl, rfl, rfl, rfl, rfl⟩ := inj13 h26
        exact hret _ _ _ _ hw dX5_give_42
    · rw [if_pos c6] at h25
      refine lv_iconst (v := (-1)) hx hb dX5_give_22 (by decide) ?_
      obtain ⟨rfl, rfl, rfl, rfl, rfl, rfl, rfl, rfl, rfl, rfl, rfl, rfl, rfl⟩ := inj13 h25
      exact hret _ _ _ _ hw dX5_give_23
theorem cal_X5_make : CalV yX5_make cX5_make 7 (some .int) RX5 3 := ⟨t_522, t_520, t_521, t_37, by decide +kernel⟩
set_option maxHeartbeats 4000000 in
set_option maxRecDepth 100000 in
theorem cX5_make_ok (l : Launch) (d : va_G) (cy : Nat → ClassId) (xx0 nw0 nw1 nw2 ng0 ng1 ng2 ng3 ps0 ps1 kp0 kq0 tr0 tp0 hs0 : Nat) (xx_isKept : Int32) (nw_people : Int32) (nw_fewest : Int32) (nw_kinds : Nat → Int32) (nw_loves : Nat → Int32) (ng_many : Nat → Int32) (ng_sets : Nat → Int32) (ng_chalk : Nat → Int32) (ng_wet : Int32) (ng_harvest : Int32) (ng_draw : Int32) (ps_known : Int32) (ps_r0 : Nat → Nat) (ps_r1 : Nat → Nat) (ps_r2 : Nat → Nat) (ps_r3 : Nat → Nat) (ps_many : Nat → Nat → Int32) (ps_sets : Nat → Nat → Int32) (ps_chalk : Nat → Nat → Int32) (ps_wet : Nat → Int32) (ps_harvest : Nat → Int32) (ps_draw : Nat → Int32) (i1 : Int32) (i2 : Int32) (i3 : Int32) (r : Int32) (ng_wet_r : Int32) (ng_harvest_r : Int32) (ps_known_r : Int32) (ps_r0_r : Nat → Nat) (ps_r1_r : Nat → Nat) (ps_r2_r : Nat → Nat) (ps_r3_r : Nat → Nat) (ps_many_r : Nat → Nat → Int32) (ps_sets_r : Nat → Nat → Int32) (ps_chalk_r : Nat → Nat → Int32) (ps_wet_r : Nat → Int32) (ps_harvest_r : Nat → Int32) (ps_draw_r : Nat → Int32) (h0 : fX5_make ng_many ng_sets ng_chalk ng_wet ng_harvest ng_draw ps_known ps_r0 ps_r1 ps_r2 ps_r3 ps_many ps_sets ps_chalk ps_wet ps_harvest ps_draw i1 i2 i3 = some (r, ng_wet_r, ng_harvest_r, ps_known_r, ps_r0_r, ps_r1_r, ps_r2_r, ps_r3_r, ps_many_r, ps_sets_r, ps_chalk_r, ps_wet_r, ps_harvest_r, ps_draw_r)) : CI l yX5_make cX5_make 7 (some .int) 3 102 d cy [.ref xx0, .int i1, .int i2, .int i3] (List.flatten [wX cy xx0 nw0 ps0 kp0 kq0 tr0 tp0 hs0 xx_isKept, wT cy nw0 nw1 nw2 ng0 nw_people nw_fewest nw_kinds nw_loves, wG cy ng0 ng1 ng2 ng3 ng_many ng_sets ng_chalk ng_wet ng_harvest ng_draw, wP cy ps0 ps1 ps_known ps_r0 ps_r1 ps_r2 ps_r3 ps_many ps_sets ps_chalk ps_wet ps_harvest ps_draw]) (List.flatten [wX cy xx0 nw0 ps0 kp0 kq0 tr0 tp0 hs0 xx_isKept, wT cy nw0 nw1 nw2 ng0 nw_people nw_fewest nw_kinds nw_loves, wG cy ng0 ng1 ng2 ng3 ng_many ng_sets ng_chalk ng_wet_r ng_harvest_r ng_draw, wP cy ps0 ps1 ps_known_r ps_r0_r ps_r1_r ps_r2_r ps_r3_r ps_many_r ps_sets_r ps_chalk_r ps_wet_r ps_harvest_r ps_draw_r]) r := by
  refine CI.of (by decide) (Nat.le_of_ble_eq_true rfl) ?_
  intro p e s m args below meth c A ls Q F hret hw hl
  have hx := F.1
  have hb := F.2.1
  have hl : lv_has ls 7 [(0, .ref xx0), (1, .int i1), (2, .int i2), (3, .int i3)] := hl
  rw [fX5_make] at h0
  refine lv_iload_n hx hb dX5_make_0 rfl (lv_at hl 1 rfl) ?_
  obtain ⟨r1, k2, h34⟩ := ob1 h0
  clear h0
  refine g_si F (cX5_isSunday_ok l d cy i1 r1 k2) cal_X5_isSunday t_290 rfl ⟨by decide, by decide⟩ hw (w' := List.flatten [wX cy xx0 nw0 ps0 kp0 kq0 tr0 tp0 hs0 xx_isKept, wT cy nw0 nw1 nw2 ng0 nw_people nw_fewest nw_kinds nw_loves, wG cy ng0 ng1 ng2 ng3 ng_many ng_sets ng_chalk ng_wet ng_harvest ng_draw, wP cy ps0 ps1 ps_known ps_r0 ps_r1 ps_r2 ps_r3 ps_many ps_sets ps_chalk ps_wet ps_harvest ps_draw]) Cut.nil hl.1 (Nat.le_of_ble_eq_true rfl) rfl dX5_make_1 (fun H locs hw => ?_)
  refine lv_if_eq (tgt := 21) hx hb dX5_make_4 (by decide) (fun c3 => ?_) (fun c3 => ?_)
  · rw [if_pos c3] at h34
    refine lv_iconst (v := (-1)) hx hb dX5_make_21 (by decide) ?_
    obtain ⟨rfl, rfl, rfl, rfl, rfl, rfl, rfl, rfl, rfl, rfl, rfl, rfl, rfl, rfl⟩ := inj14 h34
    exact hret _ _ _ _ hw dX5_make_22
  · rw [if_neg c3] at h34
    refine lv_iload_n hx hb dX5_make_7 rfl (lv_at hl 2 rfl) ?_
    obtain ⟨r4, k5, h35⟩ := ob1 h34
    clear h34
    refine g_si F (cX5_isFlag_ok l d cy i2 r4 k5) cal_X5_isFlag t_278 rfl ⟨by decide, by decide⟩ hw (w' := List.flatten [wX cy xx0 nw0 ps0 kp0 kq0 tr0 tp0 hs0 xx_isKept, wT cy nw0 nw1 nw2 ng0 nw_people nw_fewest nw_kinds nw_loves, wG cy ng0 ng1 ng2 ng3 ng_many ng_sets ng_chalk ng_wet ng_harvest ng_draw, wP cy ps0 ps1 ps_known ps_r0 ps_r1 ps_r2 ps_r3 ps_many ps_sets ps_chalk ps_wet ps_harvest ps_draw]) Cut.nil hl.1 (Nat.le_of_ble_eq_true rfl) rfl dX5_make_8 (fun H locs hw => ?_)
    refine lv_if_eq (tgt := 21) hx hb dX5_make_11 (by decide) (fun c6 => ?_) (fun c6 => ?_)
    · rw [if_pos c6] at h35
      refine lv_iconst (v := (-1)) hx hb dX5_make_21 (by decide) ?_
      obtain ⟨rfl, rfl, rfl, rfl, rfl, rfl, rfl, rfl, rfl, rfl, rfl, rfl, rfl, rfl⟩ := inj14 h35
      exact hret _ _ _ _ hw dX5_make_22
    · rw [if_neg c6] at h35
      refine lv_iload_n hx hb dX5_make_14 rfl (lv_at hl 3 rfl) ?_
      obtain ⟨r7, k8, h36⟩ := ob1 h35
      clear h35
      refine g_si F (cX5_isFlag_ok l d cy i3 r7 k8) cal_X5_isFlag t_278 rfl ⟨by decide, by decide⟩ hw (w' := List.flatten [wX cy xx0 nw0 ps0 kp0 kq0 tr0 tp0 hs0 xx_isKept, wT cy nw0 nw1 nw2 ng0 nw_people nw_fewest nw_kinds nw_loves, wG cy ng0 ng1 ng2 ng3 ng_many ng_sets ng_chalk ng_wet ng_harvest ng_draw, wP cy ps0 ps1 ps_known ps_r0 ps_r1 ps_r2 ps_r3 ps_many ps_sets ps_chalk ps_wet ps_harvest ps_draw]) Cut.nil hl.1 (Nat.le_of_ble_eq_true rfl) rfl dX5_make_15 (fun H locs hw => ?_)
      refine lv_if_ne (tgt := 23) hx hb dX5_make_18 (by decide) (fun c9 => ?_) (fun c9 => ?_)
      · rw [if_neg c9] at h36
        refine lv_aload_n hx hb dX5_make_23 rfl (lv_at hl 0 rfl) ?_
        refine g_get F inG5 hw 0 rfl rfl 0 (by decide) t_185 (fun _ h9 => h9) rfl dX5_make_24 ?_
        refine g_get F inG4 hw 1 rfl rfl 4 (by decide) t_116 (fun _ h9 => h9) rfl dX5_make_27 ?_
        refine lv_astore (lv' := [(4, .ref ng0), (0, .ref xx0), (1, .int i1), (2, .int i2), (3, .int i3)]) hx hb dX5_make_30 hl (by decide) rfl (fun ls hl => ?_)
        refine lv_iload_n hx hb dX5_make_32 rfl (lv_at hl 3 rfl) ?_
        obtain ⟨x11, h37, h38⟩ := ob1 h36
        clear h36
        have kont12 : ∀ (H : Heap) (locs : List Loc) (ls : Array Slot), Wd d A s.heap (List.flatten [wX cy xx0 nw0 ps0 kp0 kq0 tr0 tp0 hs0 xx_isKept, wT cy nw0 nw1 nw2 ng0 nw_people nw_fewest nw_kinds nw_loves, wG cy ng0 ng1 ng2 ng3 ng_many ng_sets ng_chalk ng_wet ng_harvest ng_draw, wP cy ps0 ps1 ps_known ps_r0 ps_r1 ps_r2 ps_r3 ps_many ps_sets ps_chalk ps_wet ps_harvest ps_draw]) H locs → lv_has ls 7 [(0, .ref xx0), (1, .int i1), (2, .int i2), (3, .int i3), (4, .ref ng0)] → W p l e (rmo 3 102) s m args below meth c H locs 0 0 Q (F0 m 49 ls [.int x11]) := by
          intro H locs ls hw hl
          clear h37
          refine lv_istore (lv' := [(5, .int x11), (0, .ref xx0), (1, .int i1), (2, .int i2), (3, .int i3), (4, .ref ng0)]) hx hb dX5_make_49 hl (by decide) rfl (fun ls hl => ?_)
          refine lv_iload hx hb dX5_make_51 (lv_at hl 0 rfl) ?_
          refine lv_iload_n hx hb dX5_make_53 rfl (lv_at hl 2 rfl) ?_
          obtain ⟨r14, k15, h39⟩ := ob1 h38
          clear h38
          refine g_si F (cX5_isIn_ok l d cy x11 i1 r14 k15) cal_X5_isIn t_268 rfl ⟨by decide, by decide⟩ hw (w' := List.flatten [wX cy xx0 nw0 ps0 kp0 kq0 tr0 tp0 hs0 xx_isKept, wT cy nw0 nw1 nw2 ng0 nw_people nw_fewest nw_kinds nw_loves, wG cy ng0 ng1 ng2 ng3 ng_many ng_sets ng_chalk ng_wet ng_harvest ng_draw, wP cy ps0 ps1 ps_known ps_r0 ps_r1 ps_r2 ps_r3 ps_many ps_sets ps_chalk ps_wet ps_harvest ps_draw]) Cut.nil hl.1 (Nat.le_of_ble_eq_true rfl) rfl dX5_make_54 (fun H locs hw => ?_)
          refine lv_iload_n hx hb dX5_make_57 rfl (lv_at hl 4 rfl) ?_
          refine lv_iconst (v := 1) hx hb dX5_make_58 (by decide) ?_
          obtain ⟨x17, h40, h41⟩ := ob1 h39
          clear h39
          have kont18 : ∀ (H : Heap) (locs : List Loc) (ls : Array Slot), Wd d A s.heap (List.flatten [wX cy xx0 nw0 ps0 kp0 kq0 tr0 tp0 hs0 xx_isKept, wT cy nw0 nw1 nw2 ng0 nw_people nw_fewest nw_kinds nw_loves, wG cy ng0 ng1 ng2 ng3 ng_many ng_sets ng_chalk ng_wet ng_harvest ng_draw, wP cy ps0 ps1 ps_known ps_r0 ps_r1 ps_r2 ps_r3 ps_many ps_sets ps_chalk ps_wet ps_harvest ps_draw]) H locs → lv_has ls 7 [(0, .ref xx0), (1, .int i1), (2, .int i2), (4, .ref ng0), (5, .int x11)] → W p l e (rmo 3 102) s m args below meth c H locs 0 0 Q (F0 m 67 ls [.int x17, .int r14]) := by
            intro H locs ls hw hl
            clear h40
            refine lv_icmp_ne (tgt := 73) hx hb dX5_make_67 (by decide) (fun c20 => ?_) (fun c20 => ?_)
            · rw [if_neg c20] at h41
              refine lv_aload_n hx hb dX5_make_73 rfl (lv_at hl 0 rfl) ?_
              refine g_get F inG5 hw 0 rfl rfl 1 (by decide) t_186 (fun _ h9 => h9) rfl dX5_make_74 ?_
              refine lv_aload hx hb dX5_make_77 (lv_at hl 3 rfl) ?_
              obtain ⟨x21, f22, f23, f24, f25, f26, f27, f28, f29, f30, f31, k32, h42⟩ := ob11 h41
              clear h41
              refine g_vv F (cX1_remember_ok l d cy ps0 ps1 ng0 ng1 ng2 ng3 ps_known ps_r0 ps_r1 ps_r2 ps_r3 ps_many ps_sets ps_chalk ps_wet ps_harvest ps_draw ng_many ng_sets ng_chalk ng_wet ng_harvest ng_draw x21 f22 f23 f24 f25 f26 f27 f28 f29 f30 f31 k32) cal_X1_remember t_488 rfl ⟨by decide, by decide⟩ hw (w' := List.flatten [wX cy xx0 nw0 ps0 kp0 kq0 tr0 tp0 hs0 xx_isKept, wT cy nw0 nw1 nw2 ng0 nw_people nw_fewest nw_kinds nw_loves, wG cy ng0 ng1 ng2 ng3 ng_many ng_sets ng_chalk ng_wet ng_harvest ng_draw, wP cy ps0 ps1 x21 f22 f23 f24 f25 f26 f27 f28 f29 f30 f31]) (SCut.cut (SCut.ord [_, _] [_, _] [1, 0] (show List.Perm [1, 0] (List.range 2) by decide) rfl (SCut.skip (SCut.skip (SCut.take SCut.rf (SCut.take SCut.rf SCut.none)))))) 0 1 rfl rfl hl.1 (Nat.le_of_ble_eq_true rfl) rfl dX5_make_79 (fun H locs hw => ?_)
              refine lv_iload hx hb dX5_make_82 (lv_at hl 4 rfl) ?_
              refine lv_iconst (v := 1) hx hb dX5_make_84 (by decide) ?_
              refine lv_iload_n hx hb dX5_make_85 rfl (lv_at hl 1 rfl) ?_
              refine lv_ishl hx hb dX5_make_86 ?_
              refine lv_ixor hx hb dX5_make_87 ?_
              refine lv_istore (lv' := [(6, .int (x11 ^^^ ((1 : Int32) <<< (i1 &&& 31)))), (0, .ref xx0), (1, .int i1), (2, .int i2), (4, .ref ng0), (5, .int x11)]) hx hb dX5_make_88 hl (by decide) rfl (fun ls hl => ?_)
              refine lv_iload_n hx hb dX5_make_90 rfl (lv_at hl 3 rfl) ?_
              refine lv_if_ne (tgt := 104) hx hb dX5_make_91 (by decide) (fun c33 => ?_) (fun c33 => ?_)
              · rw [if_neg c33] at h42
                refine lv_aload hx hb dX5_make_104 (lv_at hl 4 rfl) ?_
                refine lv_iload hx hb dX5_make_106 (lv_at hl 0 rfl) ?_
                refine g_put F inG0 tyX0 tyX0_ok nmX0 hw 4 rfl rfl 4 (by decide) t_86 (fun _ h9 => h9) rfl (ty := .int) (by decide +kernel) rfl rfl (Nat.le_of_ble_eq_true rfl) dX5_make_108 (w' := List.flatten [wX cy xx0 nw0 ps0 kp0 kq0 tr0 tp0 hs0 xx_isKept, wT cy nw0 nw1 nw2 ng0 nw_people nw_fewest nw_kinds nw_loves, wG cy ng0 ng1 ng2 ng3 ng_many ng_sets ng_chalk ng_wet (x11 ^^^ ((1 : Int32) <<< (i1 &&& 31))) ng_draw, wP cy ps0 ps1 x21 f22 f23 f24 f25 f26 f27 f28 f29 f30 f31]) rfl (fun H locs hw => ?_)
                refine lv_iload hx hb dX5_make_111 (lv_at hl 0 rfl) ?_
                obtain ⟨rfl, rfl, rfl, rfl, rfl, rfl, rfl, rfl, rfl, rfl, rfl, rfl, rfl, rfl⟩ := inj14 h42
                exact hret _ _ _ _ hw dX5_make_113
              · rw [if_pos c33] at h42
                refine lv_aload hx hb dX5_make_94 (lv_at hl 4 rfl) ?_
                refine lv_iload hx hb dX5_make_96 (lv_at hl 0 rfl) ?_
                refine g_put F inG0 tyX0 tyX0_ok nmX0 hw 4 rfl rfl 3 (by decide) t_81 (fun _ h9 => h9) rfl (ty := .int) (by decide +kernel) rfl rfl (Nat.le_of_ble_eq_true rfl) dX5_make_98 (w' := List.flatten [wX cy xx0 nw0 ps0 kp0 kq0 tr0 tp0 hs0 xx_isKept, wT cy nw0 nw1 nw2 ng0 nw_people nw_fewest nw_kinds nw_loves, wG cy ng0 ng1 ng2 ng3 ng_many ng_sets ng_chalk (x11 ^^^ ((1 : Int32) <<< (i1 &&& 31))) ng_harvest ng_draw, wP cy ps0 ps1 x21 f22 f23 f24 f25 f26 f27 f28 f29 f30 f31]) rfl (fun H locs hw => ?_)
                refine lv_goto (tgt := 111) hx hb dX5_make_101 (by decide) ?_
                refine lv_iload hx hb dX5_make_111 (lv_at hl 0 rfl) ?_
                obtain ⟨rfl, rfl, rfl, rfl, rfl, rfl, rfl, rfl, rfl, rfl, rfl, rfl, rfl, rfl⟩ := inj14 h42
                exact hret _ _ _ _ hw dX5_make_113
            · rw [if_pos c20] at h41
              refine lv_bipush (v := (-2)) hx hb dX5_make_70 (by decide) ?_
              obtain ⟨rfl, rfl, rfl, rfl, rfl, rfl, rfl, rfl, rfl, rfl, rfl, rfl, rfl, rfl⟩ := inj14 h41
              exact hret _ _ _ _ hw dX5_make_72
          clear h41
          refine lv_icmp_ne (tgt := 66) hx hb dX5_make_59 (by decide) (fun c19 => ?_) (fun c19 => ?_)
          · rw [if_neg c19] at h40
            refine lv_iconst (v := 0) hx hb dX5_make_66 (by decide) ?_
            obtain rfl := inj1 h40
            exact kont18 _ _ _ hw (lv_sub hl [1, 2, 3, 5, 0] rfl)
          · rw [if_pos c19] at h40
            refine lv_iconst (v := 1) hx hb dX5_make_62 (by decide) ?_
            refine lv_goto (tgt := 67) hx hb dX5_make_63 (by decide) ?_
            obtain rfl := inj1 h40
            exact kont18 _ _ _ hw (lv_sub hl [1, 2, 3, 5, 0] rfl)
        clear h38
        refine lv_if_ne (tgt := 44) hx hb dX5_make_33 (by decide) (fun c13 => ?_) (fun c13 => ?_)
        · rw [if_neg c13] at h37
          refine lv_aload hx hb dX5_make_44 (lv_at hl 0 rfl) ?_
          refine g_get F inG0 hw 4 rfl rfl 4 (by decide) t_86 (fun _ h9 => h9) rfl dX5_make_46 ?_
          obtain rfl := inj1 h37
          exact kont12 _ _ _ hw (lv_sub hl [1, 2, 3, 4, 0] rfl)
        · rw [if_pos c13] at h37
          refine lv_aload hx hb dX5_make_36 (lv_at hl 0 rfl) ?_
          refine g_get F inG0 hw 4 rfl rfl 3 (by decide) t_81 (fun _ h9 => h9) rfl dX5_make_38 ?_
          refine lv_goto (tgt := 49) hx hb dX5_make_41 (by decide) ?_
          obtain rfl := inj1 h37
          exact kont12 _ _ _ hw (lv_sub hl [1, 2, 3, 4, 0] rfl)
      · rw [if_pos c9] at h36
        refine lv_iconst (v := (-1)) hx hb dX5_make_21 (by decide) ?_
        obtain ⟨rfl, rfl, rfl, rfl, rfl, rfl, rfl, rfl, rfl, rfl, rfl, rfl, rfl, rfl⟩ := inj14 h36
        exact hret _ _ _ _ hw dX5_make_22
theorem cal_X5_drift : CalV yX5_drift cX5_drift 3 (some .int) RX5 1 := ⟨t_526, t_524, t_525, t_37, by decide +kernel⟩
set_option maxHeartbeats 4000000 in
set_option maxRecDepth 100000 in
theorem cX5_drift_ok (l : Launch) (d : va_G) (cy : Nat → ClassId) (xx0 nw0 nw1 nw2 ng0 ng1 ng2 ng3 ps0 ps1 kp0 kq0 tr0 tp0 hs0 : Nat) (xx_isKept : Int32) (nw_people : Int32) (nw_fewest : Int32) (nw_kinds : Nat → Int32) (nw_loves : Nat → Int32) (ng_many : Nat → Int32) (ng_sets : Nat → Int32) (ng_chalk : Nat → Int32) (ng_wet : Int32) (ng_harvest : Int32) (ng_draw : Int32) (ps_known : Int32) (ps_r0 : Nat → Nat) (ps_r1 : Nat → Nat) (ps_r2 : Nat → Nat) (ps_r3 : Nat → Nat) (ps_many : Nat → Nat → Int32) (ps_sets : Nat → Nat → Int32) (ps_chalk : Nat → Nat → Int32) (ps_wet : Nat → Int32) (ps_harvest : Nat → Int32) (ps_draw : Nat → Int32) (i1 : Int32) (r : Int32) (ng_many_r : Nat → Int32) (ng_sets_r : Nat → Int32) (ng_chalk_r : Nat → Int32) (ng_draw_r : Int32) (ps_known_r : Int32) (ps_r0_r : Nat → Nat) (ps_r1_r : Nat → Nat) (ps_r2_r : Nat → Nat) (ps_r3_r : Nat → Nat) (ps_many_r : Nat → Nat → Int32) (ps_sets_r : Nat → Nat → Int32) (ps_chalk_r : Nat → Nat → Int32) (ps_wet_r : Nat → Int32) (ps_harvest_r : Nat → Int32) (ps_draw_r : Nat → Int32) (h0 : fX5_drift nw_people nw_fewest nw_kinds nw_loves ng_many ng_sets ng_chalk ng_wet ng_harvest ng_draw ps_known ps_r0 ps_r1 ps_r2 ps_r3 ps_many ps_sets ps_chalk ps_wet ps_harvest ps_draw i1 = some (r, ng_many_r, ng_sets_r, ng_chalk_r, ng_draw_r, ps_known_r, ps_r0_r, ps_r1_r, ps_r2_r, ps_r3_r, ps_many_r, ps_sets_r, ps_chalk_r, ps_wet_r, ps_harvest_r, ps_draw_r)) : CI l yX5_drift cX5_drift 3 (some .int) 6 147 d cy [.ref xx0, .int i1] (List.flatten [wX cy xx0 nw0 ps0 kp0 kq0 tr0 tp0 hs0 xx_isKept, wT cy nw0 nw1 nw2 ng0 nw_people nw_fewest nw_kinds nw_loves, wG cy ng0 ng1 ng2 ng3 ng_many ng_sets ng_chalk ng_wet ng_harvest ng_draw, wP cy ps0 ps1 ps_known ps_r0 ps_r1 ps_r2 ps_r3 ps_many ps_sets ps_chalk ps_wet ps_harvest ps_draw]) (List.flatten [wX cy xx0 nw0 ps0 kp0 kq0 tr0 tp0 hs0 xx_isKept, wT cy nw0 nw1 nw2 ng0 nw_people nw_fewest nw_kinds nw_loves, wG cy ng0 ng1 ng2 ng3 ng_many_r ng_sets_r ng_chalk_r ng_wet ng_harvest ng_draw_r, wP cy ps0 ps1 ps_known_r ps_r0_r ps_r1_r ps_r2_r ps_r3_r ps_many_r ps_sets_r ps_chalk_r ps_wet_r ps_harvest_r ps_draw_r]) r := by
  refine CI.of (by decide) (Nat.le_of_ble_eq_true rfl) ?_
  intro p e s m args below meth c A ls Q F hret hw hl
  have hx := F.1
  have hb := F.2.1
  have hl : lv_has ls 3 [(0, .ref xx0), (1, .int i1)] := hl
  rw [fX5_drift] at h0
  refine lv_iload_n hx hb dX5_drift_0 rfl (lv_at hl 1 rfl) ?_
  refine lv_iconst (v := 1) hx hb dX5_drift_1 (by decide) ?_
  refine lv_bipush (v := 40) hx hb dX5_drift_2 (by decide) ?_
  obtain ⟨r1, k2, h110⟩ := ob1 h0
  clear h0
  refine g_si F (cX5_isWithin_ok l d cy i1 1 40 r1 k2) cal_X5_isWithin t_214 rfl ⟨by decide, by decide⟩ hw (w' := List.flatten [wX cy xx0 nw0 ps0 kp0 kq0 tr0 tp0 hs0 xx_isKept, wT cy nw0 nw1 nw2 ng0 nw_people nw_fewest nw_kinds nw_loves, wG cy ng0 ng1 ng2 ng3 ng_many ng_sets ng_chalk ng_wet ng_harvest ng_draw, wP cy ps0 ps1 ps_known ps_r0 ps_r1 ps_r2 ps_r3 ps_many ps_sets ps_chalk ps_wet ps_harvest ps_draw]) Cut.nil hl.1 (Nat.le_of_ble_eq_true rfl) rfl dX5_drift_4 (fun H locs hw => ?_)
  refine lv_if_ne (tgt := 12) hx hb dX5_drift_7 (by decide) (fun c3 => ?_) (fun c3 => ?_)
  · rw [if_neg c3] at h110
    refine lv_iconst (v := 0) hx hb dX5_drift_12 (by decide) ?_
    refine lv_istore_n (lv' := [(2, .int 0), (0, .ref xx0), (1, .int i1)]) hx hb dX5_drift_13 rfl hl (by decide) rfl (fun ls hl => ?_)
    obtain ⟨q75, q76, q77, o78, o79, q80, q81, q82, q83, q84, q85, q86, q87, q88, q89, h111, h112⟩ := ob15 h110
    clear h110
    have kont72 : ∀ (H : Heap) (locs : List Loc) (ls : Array Slot), Wd d A s.heap (List.flatten [wX cy xx0 nw0 ps0 kp0 kq0 tr0 tp0 hs0 xx_isKept, wT cy nw0 nw1 nw2 ng0 nw_people nw_fewest nw_kinds nw_loves, wG cy ng0 ng1 ng2 ng3 q75 q76 q77 ng_wet ng_harvest o78, wP cy ps0 ps1 o79 q80 q81 q82 q83 q84 q85 q86 q87 q88 q89]) H locs → lv_has ls 3 [(0, .ref xx0)] → W p l e (rmo 6 147) s m args below meth c H locs 0 0 Q (F0 m 46 ls []) := by
      intro H locs ls hw hl
      clear h111
      refine lv_aload_n hx hb dX5_drift_46 rfl (lv_at hl 0 rfl) ?_
      refine g_get F inG5 hw 0 rfl rfl 0 (by decide) t_185 (fun _ h9 => h9) rfl dX5_drift_47 ?_
      obtain ⟨r108, k109, h113⟩ := ob1 h112
      clear h112
      refine g_vi F (cX4_worthOfAll_ok l d cy nw0 nw1 nw2 ng0 ng1 ng2 ng3 nw_people nw_fewest nw_kinds nw_loves q75 q76 q77 ng_wet ng_harvest o78 r108 k109) cal_X4_worthOfAll t_459 rfl ⟨by decide, by decide⟩ hw (w' := List.flatten [wX cy xx0 nw0 ps0 kp0 kq0 tr0 tp0 hs0 xx_isKept, wT cy nw0 nw1 nw2 ng0 nw_people nw_fewest nw_kinds nw_loves, wG cy ng0 ng1 ng2 ng3 q75 q76 q77 ng_wet ng_harvest o78, wP cy ps0 ps1 o79 q80 q81 q82 q83 q84 q85 q86 q87 q88 q89]) (SCut.cut (SCut.skip (SCut.take SCut.rf (SCut.take SCut.rf (SCut.skip SCut.none))))) 0 4 rfl rfl hl.1 (Nat.le_of_ble_eq_true rfl) rfl dX5_drift_50 (fun H locs hw => ?_)
      obtain ⟨rfl, rfl, rfl, rfl, rfl, rfl, rfl, rfl, rfl, rfl, rfl, rfl, rfl, rfl, rfl, rfl⟩ := inj16 h113
      exact hret _ _ _ _ hw dX5_drift_53
    clear h112
    have loop74 : ∀ (n : Nat) (v56 : Int32) (g57 : Nat → Int32) (v58 : Int32) (g59 : Nat → Int32) (g60 : Nat → Int32) (g61 : Nat → Nat → Int32) (g62 : Nat → Int32) (g63 : Nat → Int32) (v64 : Int32) (g65 : Nat → Nat → Int32) (g66 : Nat → Nat) (g67 : Nat → Nat) (g68 : Nat → Nat) (g69 : Nat → Nat) (g70 : Nat → Nat → Int32) (g71 : Nat → Int32) (H : Heap) (locs : List Loc) (ls : Array Slot), Wd d A s.heap (List.flatten [wX cy xx0 nw0 ps0 kp0 kq0 tr0 tp0 hs0 xx_isKept, wT cy nw0 nw1 nw2 ng0 nw_people nw_fewest nw_kinds nw_loves, wG cy ng0 ng1 ng2 ng3 g59 g60 g57 ng_wet ng_harvest v58, wP cy ps0 ps1 v64 g66 g67 g68 g69 g65 g70 g61 g71 g63 g62]) H locs → lv_has ls 3 [(0, .ref xx0), (1, .int i1), (2, .int v56)] → fX5_drift_L14 i1 ng_harvest ng_wet nw_fewest nw_kinds nw_loves nw_people n v56 g57 v58 g59 g60 g61 g62 g63 v64 g65 g66 g67 g68 g69 g70 g71 = some (q75, q76, q77, o78, o79, q80, q81, q82, q83, q84, q85, q86, q87, q88, q89) → W p l e (rmo 6 147) s m args below meth c H locs 0 0 Q (F0 m 14 ls []) := by
      intro n
      induction n with
      | zero =>
        intro v56 g57 v58 g59 g60 g61 g62 g63 v64 g65 g66 g67 g68 g69 g70 g71 H locs ls hw hl h114
        rw [fX5_drift_L14] at h114
        cases h114
      | succ n ih73 =>
        intro v56 g57 v58 g59 g60 g61 g62 g63 v64 g65 g66 g67 g68 g69 g70 g71 H locs ls hw hl h115
        rw [fX5_drift_L14] at h115
        refine lv_iload_n hx hb dX5_drift_14 rfl (lv_at hl 2 rfl) ?_
        refine lv_iload_n hx hb dX5_drift_15 rfl (lv_at hl 1 rfl) ?_
        refine lv_icmp_ge (tgt := 46) hx hb dX5_drift_16 (by decide) (fun c90 => ?_) (fun c90 => ?_)
        · rw [if_pos c90] at h115
          obtain ⟨rfl, rfl, rfl, rfl, rfl, rfl, rfl, rfl, rfl, rfl, rfl, rfl, rfl, rfl, rfl⟩ := inj15 h115
          exact kont72 _ _ _ hw (lv_sub hl [0] rfl)
        · rw [if_neg c90] at h115
          refine lv_aload_n hx hb dX5_drift_19 rfl (lv_at hl 0 rfl) ?_
          refine g_get F inG5 hw 0 rfl rfl 1 (by decide) t_186 (fun _ h9 => h9) rfl dX5_drift_20 ?_
          refine lv_aload_n hx hb dX5_drift_23 rfl (lv_at hl 0 rfl) ?_
          refine g_get F inG5 hw 0 rfl rfl 0 (by decide) t_185 (fun _ h9 => h9) rfl dX5_drift_24 ?_
          refine g_get F inG4 hw 1 rfl rfl 4 (by decide) t_116 (fun _ h9 => h9) rfl dX5_drift_27 ?_
          obtain ⟨x91, f92, f93, f94, f95, f96, f97, f98, f99, f100, f101, k102, h116⟩ := ob11 h115
          clear h115
          refine g_vv F (cX1_remember_ok l d cy ps0 ps1 ng0 ng1 ng2 ng3 v64 g66 g67 g68 g69 g65 g70 g61 g71 g63 g62 g59 g60 g57 ng_wet ng_harvest v58 x91 f92 f93 f94 f95 f96 f97 f98 f99 f100 f101 k102) cal_X1_remember t_488 rfl ⟨by decide, by decide⟩ hw (w' := List.flatten [wX cy xx0 nw0 ps0 kp0 kq0 tr0 tp0 hs0 xx_isKept, wT cy nw0 nw1 nw2 ng0 nw_people nw_fewest nw_kinds nw_loves, wG cy ng0 ng1 ng2 ng3 g59 g60 g57 ng_wet ng_harvest v58, wP cy ps0 ps1 x91 f92 f93 f94 f95 f96 f97 f98 f99 f100 f101]) (SCut.cut (SCut.ord [_, _] [_, _] [1, 0] (show List.Perm [1, 0] (List.range 2) by decide) rfl (SCut.skip (SCut.skip (SCut.take SCut.rf (SCut.take SCut.rf SCut.none)))))) 0 1 rfl rfl hl.1 (Nat.le_of_ble_eq_true rfl) rfl dX5_drift_30 (fun H locs hw => ?_)
          refine lv_aload_n hx hb dX5_drift_33 rfl (lv_at hl 0 rfl) ?_
          refine g_get F inG5 hw 0 rfl rfl 0 (by decide) t_185 (fun _ h9 => h9) rfl dX5_drift_34 ?_
          obtain ⟨f103, f104, f105, x106, k107, h117⟩ := ob4 h116
          clear h116
          refine g_vv F (cX4_driftOnce_ok l d cy nw0 nw1 nw2 ng0 ng1 ng2 ng3 nw_people nw_fewest nw_kinds nw_loves g59 g60 g57 ng_wet ng_harvest v58 f103 f104 f105 x106 k107) cal_X4_driftOnce t_527 rfl ⟨by decide, by decide⟩ hw (w' := List.flatten [wX cy xx0 nw0 ps0 kp0 kq0 tr0 tp0 hs0 xx_isKept, wT cy nw0 nw1 nw2 ng0 nw_people nw_fewest nw_kinds nw_loves, wG cy ng0 ng1 ng2 ng3 f103 f104 f105 ng_wet ng_harvest x106, wP cy ps0 ps1 x91 f92 f93 f94 f95 f96 f97 f98 f99 f100 f101]) (SCut.cut (SCut.skip (SCut.take SCut.rf (SCut.take SCut.rf (SCut.skip SCut.none))))) 0 4 rfl rfl hl.1 (Nat.le_of_ble_eq_true rfl) rfl dX5_drift_37 (fun H locs hw => ?_)
          refine lv_iinc (v := (v56 + 1)) (lv' := [(2, .int (v56 + 1)), (0, .ref xx0), (1, .int i1)]) hx hb dX5_drift_40 hl (k := 2) rfl rfl (by decide) rfl (fun ls hl => ?_)
          refine lv_goto (tgt := 14) hx hb dX5_drift_43 (by decide) ?_
          exact ih73 (v56 + 1) f105 x106 f103 f104 f98 f101 f100 x91 f96 f92 f93 f94 f95 f97 f99 _ _ _ hw (lv_sub hl [1, 2, 0] rfl) h117
    exact loop74 fl 0 ng_chalk ng_draw ng_many ng_sets ps_chalk ps_draw ps_harvest ps_known ps_many ps_r0 ps_r1 ps_r2 ps_r3 ps_sets ps_wet _ _ _ hw (lv_sub hl [1, 2, 0] rfl) h111
  · rw [if_pos c3] at h110
    refine lv_iconst (v := (-1)) hx hb dX5_drift_10 (by decide) ?_
    obtain ⟨rfl, rfl, rfl, rfl, rfl, rfl, rfl, rfl, rfl, rfl, rfl, rfl, rfl, rfl, rfl, rfl⟩ := inj16 h110
    exact hret _ _ _ _ hw dX5_drift_11
