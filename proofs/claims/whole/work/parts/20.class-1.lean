theorem t_88 : (Cond.fieldLink "SundayMarket" 181 "SundayMarket$Goods" "draw" "I") ∈ gtbl := wd 88 (by decide +kernel) (by decide +kernel)
theorem t_543 : (Cond.instanceMethod yX5_undo) ∈ gtbl := wd 543 (by decide +kernel) (by decide +kernel)
theorem t_544 : (Cond.selects "SundayMarket" yX5_undo yX5_undo) ∈ gtbl := wd 544 (by decide +kernel) (by decide +kernel)
theorem t_545 : (Cond.code yX5_undo prog_1_method_16_code 1 (some .int)) ∈ gtbl := wd 545 (by decide +kernel) (by decide +kernel)
theorem t_546 : (Cond.methodLink "SundayMarket" 178 yX1_bringBack) ∈ gtbl := wd 546 (by decide +kernel) (by decide +kernel)
theorem t_551 : (Cond.instanceMethod yX5_seed) ∈ gtbl := wd 551 (by decide +kernel) (by decide +kernel)
theorem t_552 : (Cond.selects "SundayMarket" yX5_seed yX5_seed) ∈ gtbl := wd 552 (by decide +kernel) (by decide +kernel)
theorem t_553 : (Cond.code yX5_seed prog_1_method_17_code 3 (some .int)) ∈ gtbl := wd 553 (by decide +kernel) (by decide +kernel)
theorem t_555 : (Cond.instanceMethod yX5_gain) ∈ gtbl := wd 555 (by decide +kernel) (by decide +kernel)
theorem t_556 : (Cond.selects "SundayMarket" yX5_gain yX5_gain) ∈ gtbl := wd 556 (by decide +kernel) (by decide +kernel)
theorem t_557 : (Cond.code yX5_gain prog_1_method_18_code 4 (some .int)) ∈ gtbl := wd 557 (by decide +kernel) (by decide +kernel)
theorem t_558 : (Cond.methodLink "SundayMarket" 184 yX4_gainOfSale) ∈ gtbl := wd 558 (by decide +kernel) (by decide +kernel)
theorem t_567 : (Cond.instanceMethod yX5_middle) ∈ gtbl := wd 567 (by decide +kernel) (by decide +kernel)
theorem t_568 : (Cond.selects "SundayMarket" yX5_middle yX5_middle) ∈ gtbl := wd 568 (by decide +kernel) (by decide +kernel)
theorem t_569 : (Cond.code yX5_middle prog_1_method_19_code 4 (some .int)) ∈ gtbl := wd 569 (by decide +kernel) (by decide +kernel)
theorem t_570 : (Cond.methodLink "SundayMarket" 188 yX4_middleOfSale) ∈ gtbl := wd 570 (by decide +kernel) (by decide +kernel)
theorem t_572 : (Cond.instanceMethod yX5_best) ∈ gtbl := wd 572 (by decide +kernel) (by decide +kernel)
theorem t_573 : (Cond.selects "SundayMarket" yX5_best yX5_best) ∈ gtbl := wd 573 (by decide +kernel) (by decide +kernel)
theorem t_574 : (Cond.code yX5_best prog_1_method_20_code 3 (some .int)) ∈ gtbl := wd 574 (by decide +kernel) (by decide +kernel)
theorem t_575 : (Cond.methodLink "SundayMarket" 191 yX4_bestSale) ∈ gtbl := wd 575 (by decide +kernel) (by decide +kernel)
theorem t_588 : (Cond.methodLink "SundayMarket" 194 yX5_sellerOf) ∈ gtbl := wd 588 (by decide +kernel) (by decide +kernel)
theorem t_591 : (Cond.methodLink "SundayMarket" 197 yX5_buyerOf) ∈ gtbl := wd 591 (by decide +kernel) (by decide +kernel)
theorem t_594 : (Cond.methodLink "SundayMarket" 200 yX5_halfOf) ∈ gtbl := wd 594 (by decide +kernel) (by decide +kernel)
theorem t_598 : (Cond.instanceMethod yX5_market) ∈ gtbl := wd 598 (by decide +kernel) (by decide +kernel)
theorem t_599 : (Cond.selects "SundayMarket" yX5_market yX5_market) ∈ gtbl := wd 599 (by decide +kernel) (by decide +kernel)
theorem t_600 : (Cond.code yX5_market prog_1_method_21_code 4 (some .int)) ∈ gtbl := wd 600 (by decide +kernel) (by decide +kernel)
theorem t_601 : (Cond.constant "SundayMarket" 203 (100000)) ∈ gtbl := wd 601 (by decide +kernel) (by decide +kernel)
theorem t_603 : (Cond.instanceMethod yX5_longest) ∈ gtbl := wd 603 (by decide +kernel) (by decide +kernel)
theorem t_604 : (Cond.selects "SundayMarket" yX5_longest yX5_longest) ∈ gtbl := wd 604 (by decide +kernel) (by decide +kernel)
theorem t_605 : (Cond.code yX5_longest prog_1_method_22_code 8 (some .int)) ∈ gtbl := wd 605 (by decide +kernel) (by decide +kernel)
theorem t_606 : (Cond.methodLink "SundayMarket" 204 yX5_lengthFrom) ∈ gtbl := wd 606 (by decide +kernel) (by decide +kernel)
theorem t_610 : (Cond.instanceMethod yX5_stretch) ∈ gtbl := wd 610 (by decide +kernel) (by decide +kernel)
theorem t_611 : (Cond.selects "SundayMarket" yX5_stretch yX5_stretch) ∈ gtbl := wd 611 (by decide +kernel) (by decide +kernel)
theorem t_612 : (Cond.code yX5_stretch prog_1_method_23_code 10 (some .int)) ∈ gtbl := wd 612 (by decide +kernel) (by decide +kernel)
theorem t_613 : (Cond.methodLink "SundayMarket" 207 yJ6_bitCount_0f7a4) ∈ gtbl := wd 613 (by decide +kernel) (by decide +kernel)
theorem t_615 : (Cond.instanceMethod yX5_more) ∈ gtbl := wd 615 (by decide +kernel) (by decide +kernel)
theorem t_616 : (Cond.selects "SundayMarket" yX5_more yX5_more) ∈ gtbl := wd 616 (by decide +kernel) (by decide +kernel)
theorem t_617 : (Cond.code yX5_more prog_1_method_24_code 11 (some .int)) ∈ gtbl := wd 617 (by decide +kernel) (by decide +kernel)
theorem t_618 : (Cond.methodLink "SundayMarket" 212 yX4_worthOfSet) ∈ gtbl := wd 618 (by decide +kernel) (by decide +kernel)
theorem t_623 : (Cond.instanceMethod yX5_envy) ∈ gtbl := wd 623 (by decide +kernel) (by decide +kernel)
theorem t_624 : (Cond.selects "SundayMarket" yX5_envy yX5_envy) ∈ gtbl := wd 624 (by decide +kernel) (by decide +kernel)
theorem t_625 : (Cond.code yX5_envy prog_1_method_25_code 7 (some .int)) ∈ gtbl := wd 625 (by decide +kernel) (by decide +kernel)
theorem t_627 : (Cond.instanceMethod yX5_both) ∈ gtbl := wd 627 (by decide +kernel) (by decide +kernel)
theorem t_628 : (Cond.selects "SundayMarket" yX5_both yX5_both) ∈ gtbl := wd 628 (by decide +kernel) (by decide +kernel)
theorem t_629 : (Cond.code yX5_both prog_1_method_26_code 3 (some .int)) ∈ gtbl := wd 629 (by decide +kernel) (by decide +kernel)
theorem t_631 : (Cond.instanceMethod yX5_hands) ∈ gtbl := wd 631 (by decide +kernel) (by decide +kernel)
theorem t_632 : (Cond.selects "SundayMarket" yX5_hands yX5_hands) ∈ gtbl := wd 632 (by decide +kernel) (by decide +kernel)
theorem t_633 : (Cond.code yX5_hands prog_1_method_27_code 4 (some .int)) ∈ gtbl := wd 633 (by decide +kernel) (by decide +kernel)
def fX5_undo (ng_many : Nat → Int32) (ng_sets : Nat → Int32) (ng_chalk : Nat → Int32) (ng_wet : Int32) (ng_harvest : Int32) (ng_draw : Int32) (ps_known : Int32) (ps_many : Nat → Nat → Int32) (ps_sets : Nat → Nat → Int32) (ps_chalk : Nat → Nat → Int32) (ps_wet : Nat → Int32) (ps_harvest : Nat → Int32) (ps_draw : Nat → Int32) : Option (Int32 × (Nat → Int32) × (Nat → Int32) × (Nat → Int32) × Int32 × Int32 × Int32 × Int32) :=
  if ps_known = 0 then
    some ((-4), ng_many, ng_sets, ng_chalk, ng_wet, ng_harvest, ng_draw, ps_known)
  else
    bd7 (fX1_bringBack ps_known ps_many ps_sets ps_chalk ps_wet ps_harvest ps_draw ng_many ng_sets ng_chalk ng_wet ng_harvest ng_draw) fun x2 f3 f4 f5 x6 x7 x8 =>
    some (x2, f3, f4, f5, x6, x7, x8, x2)
def fX5_seed (ng_draw : Int32) (i1 : Int32) : Option (Int32 × Int32) :=
  if 0 ≤ i1 then
    some (ng_draw, i1)
  else
    some ((-1), ng_draw)
def fX5_gain (nw_people : Int32) (nw_kinds : Nat → Int32) (nw_loves : Nat → Int32) (ng_many : Nat → Int32) (ng_sets : Nat → Int32) (ng_wet : Int32) (ng_harvest : Int32) (i1 : Int32) (i2 : Int32) (i3 : Int32) : Option (Int32 × (Nat → Int32) × (Nat → Int32)) :=
  bd1 (fX4_areTwo nw_people i1 i2) fun r1 =>
  if r1 = 0 then
    some ((-1), ng_many, ng_sets)
  else
    bd1 (fX5_isHalf i3) fun r4 =>
    if r4 = 0 then
      some ((-1), ng_many, ng_sets)
    else
      bd1 (fX0_manyOf ng_many i1 i3) fun r7 =>
      if r7 = 0 then
        some ((-2), ng_many, ng_sets)
      else
        bd3 (fX4_gainOfSale nw_people nw_kinds nw_loves ng_many ng_sets ng_wet ng_harvest i1 i2 i3) fun r10 f11 f12 =>
        some ((1000 + r10), f11, f12)
def fX5_middle (nw_people : Int32) (nw_kinds : Nat → Int32) (nw_loves : Nat → Int32) (ng_many : Nat → Int32) (ng_sets : Nat → Int32) (ng_wet : Int32) (ng_harvest : Int32) (i1 : Int32) (i2 : Int32) (i3 : Int32) : Option (Int32 × (Nat → Int32) × (Nat → Int32)) :=
  bd1 (fX4_areTwo nw_people i1 i2) fun r1 =>
  if r1 = 0 then
    some ((-1), ng_many, ng_sets)
  else
    bd1 (fX5_isHalf i3) fun r4 =>
    if r4 = 0 then
      some ((-1), ng_many, ng_sets)
    else
      bd1 (fX0_manyOf ng_many i1 i3) fun r7 =>
      if r7 = 0 then
        some ((-2), ng_many, ng_sets)
      else
        bd3 (fX4_middleOfSale nw_kinds nw_loves ng_many ng_sets ng_wet ng_harvest i1 i2 i3) fun r10 f11 f12 =>
        some (r10, f11, f12)
def fX5_best (nw_people : Int32) (nw_fewest : Int32) (nw_kinds : Nat → Int32) (nw_loves : Nat → Int32) (ng_many : Nat → Int32) (ng_sets : Nat → Int32) (ng_chalk : Nat → Int32) (ng_wet : Int32) (ng_harvest : Int32) (i1 : Int32) : Option (Int32 × (Nat → Int32) × (Nat → Int32)) :=
  bd1 (fX5_isFlag i1) fun r1 =>
  if r1 = 0 then
    some ((-1), ng_many, ng_sets)
  else
    bd3 (fX4_bestSale nw_people nw_fewest nw_kinds nw_loves ng_many ng_sets ng_chalk ng_wet ng_harvest) fun r4 f5 f6 =>
    if r4 = (-4) then
      some (r4, f5, f6)
    else
      if i1 = 0 then
        some (r4, f5, f6)
      else
        bd1 (fX5_sellerOf r4) fun r10 =>
        bd1 (fX5_buyerOf r4) fun r12 =>
        bd1 (fX5_halfOf r4) fun r14 =>
        bd3 (fX4_gainOfSale nw_people nw_kinds nw_loves f5 f6 ng_wet ng_harvest r10 r12 r14) fun r16 f17 f18 =>
        some (r16, f17, f18)
def fX5_market_L30 (x4 : Int32) (x5 : Int32) (f6 : Nat → Int32) (f7 : Nat → Int32) (f10 : Nat → Int32) (x11 : Int32) (x12 : Int32) : Nat → Int32 → Int32 → (Nat → Int32) → (Nat → Int32) → Option ((Nat → Int32) × (Nat → Int32) × Int32)
  | 0, _, _, _, _ => none
  | n + 1, v53, v54, g55, g56 =>
    if v54 = (-4) then
      some (g55, g56, v53)
    else
      if 100000 ≤ v53 then
        some (g55, g56, v53)
      else
        bd1 (fX5_sellerOf v54) fun r65 =>
        bd1 (fX5_buyerOf v54) fun r67 =>
        bd1 (fX5_halfOf v54) fun r69 =>
        bd2 (fX0_move g55 g56 r65 r67 r69) fun f71 f72 =>
        bd3 (fX4_bestSale x4 x5 f6 f7 f71 f72 f10 x11 x12) fun r74 f75 f76 =>
        fX5_market_L30 x4 x5 f6 f7 f10 x11 x12 n (v53 + 1) r74 f75 f76
def fX5_market (nw_people : Int32) (nw_fewest : Int32) (nw_kinds : Nat → Int32) (nw_loves : Nat → Int32) (ng_many : Nat → Int32) (ng_sets : Nat → Int32) (ng_chalk : Nat → Int32) (ng_wet : Int32) (ng_harvest : Int32) (ng_draw : Int32) (tr_people : Int32) (tr_fewest : Int32) (tr_kinds : Nat → Int32) (tr_loves : Nat → Int32) (tg_many : Nat → Int32) (tg_sets : Nat → Int32) (tg_chalk : Nat → Int32) (tg_wet : Int32) (tg_harvest : Int32) (tg_draw : Int32) (i1 : Int32) : Option (Int32 × Int32 × Int32 × (Nat → Int32) × (Nat → Int32) × (Nat → Int32) × (Nat → Int32) × (Nat → Int32) × Int32 × Int32 × Int32) :=
  bd1 (fX5_isFlag i1) fun r1 =>
  if r1 = 0 then
    some ((-1), tr_people, tr_fewest, tr_kinds, tr_loves, tg_many, tg_sets, tg_chalk, tg_wet, tg_harvest, tg_draw)
  else
    bd10 (fX4_copyTown tr_kinds tr_loves tg_many tg_sets tg_chalk nw_people nw_fewest nw_kinds nw_loves ng_many ng_sets ng_chalk ng_wet ng_harvest ng_draw) fun x4 x5 f6 f7 f8 f9 f10 x11 x12 x13 =>
    bd3 (fX4_bestSale x4 x5 f6 f7 f8 f9 f10 x11 x12) fun r15 f16 f17 =>
    bd3 (fX5_market_L30 x4 x5 f6 f7 f10 x11 x12 fl 0 r15 f16 f17) fun q60 q61 o62 =>
    if i1 = 0 then
      some (o62, x4, x5, f6, f7, q60, q61, f10, x11, x12, x13)
    else
      bd1 (fX4_worthOfAll x4 f6 f7 q61 x11 x12) fun r79 =>
      some (r79, x4, x5, f6, f7, q60, q61, f10, x11, x12, x13)
def fX5_longest_L43 (ng_sets : Nat → Int32) (j7 : Nat) : Nat → Int32 → Int32 → Int32 → Option (Int32 × Int32)
  | 0, _, _, _ => none
  | n + 1, v28, v29, v30 =>
    if 12 ≤ v30 then
      some (v28, v29)
    else
      bd1 (fX5_lengthFrom (ng_sets j7) v30) fun r37 =>
      bd2 (if r37 ≤ v28 then
          some (v28, v29)
        else
          some (r37, v30)
        : Option (Int32 × Int32)) fun x40 x41 =>
      fX5_longest_L43 ng_sets j7 n x40 x41 (v30 + 1)
def fX5_longest (nw_people : Int32) (ng_sets : Nat → Int32) (i1 : Int32) (i2 : Int32) : Option (Int32) :=
  bd1 (fX4_isOne nw_people i1) fun r1 =>
  if r1 = 0 then
    some ((-1))
  else
    bd1 (fX5_isFlag i2) fun r4 =>
    if r4 = 0 then
      some ((-1))
    else
      bd1 (ix i1 6) fun j7 =>
      bd2 (fX5_longest_L43 ng_sets j7 fl 0 (-4) 0) fun o34 o35 =>
      if i2 = 0 then
        some (o34)
      else
        some (o35)
def fX5_stretch_L67 (i2 : Int32) (ng_sets : Nat → Int32) (j10 : Nat) : Nat → Int32 → Int32 → Int32 → Option (Int32 × Int32)
  | 0, _, _, _ => none
  | n + 1, v40, v41, v42 =>
    if 12 < (v42 + i2) then
      some (v40, v41)
    else
      bd1 (fJ6_bitCount_0f7a4 ((4095 &&& ((ng_sets j10) ^^^ (-1))) &&& ((((1 : Int32) <<< (i2 &&& 31)) - 1) <<< (v42 &&& 31)))) fun r49 =>
      bd2 (if v40 ≤ r49 then
          some (v40, v41)
        else
          some (r49, v42)
        : Option (Int32 × Int32)) fun x52 x53 =>
      fX5_stretch_L67 i2 ng_sets j10 n x52 x53 (v42 + 1)
def fX5_stretch (nw_people : Int32) (ng_sets : Nat → Int32) (i1 : Int32) (i2 : Int32) (i3 : Int32) : Option (Int32) :=
  bd1 (fX4_isOne nw_people i1) fun r1 =>
  if r1 = 0 then
    some ((-1))
  else
    bd1 (fX5_isWithin i2 1 12) fun r4 =>
    if r4 = 0 then
      some ((-1))
    else
      bd1 (fX5_isFlag i3) fun r7 =>
      if r7 = 0 then
        some ((-1))
      else
        bd1 (ix i1 6) fun j10 =>
        bd2 (fX5_stretch_L67 i2 ng_sets j10 fl 13 0 0) fun o46 o47 =>
        if i3 = 0 then
          some (o46)
        else
          some (o47)
def fX5_more_L70 (i1 : Int32) (i2 : Int32) (i3 : Int32) (ng_harvest : Int32) (ng_sets : Nat → Int32) (ng_wet : Int32) (nw_kinds : Nat → Int32) (nw_loves : Nat → Int32) (j13 : Nat) : Nat → Int32 → Int32 → Int32 → Option (Int32 × Int32)
  | 0, _, _, _ => none
  | n + 1, v52, v53, v54 =>
    if 4095 < v54 then
      some (v52, v53)
    else
      bd1 (fJ6_bitCount_0f7a4 v54) fun r61 =>
      bd2 (if i2 < r61 then
          some (v52, v53)
        else
          if (v54 &&& (ng_sets j13)) = 0 then
            bd1 (fX4_worthOfSet nw_kinds nw_loves ng_sets ng_wet ng_harvest i1 ((ng_sets j13) ||| v54)) fun r73 =>
            if (r73 - (r61 * i3)) ≤ v52 then
              some (v52, v53)
            else
              some ((r73 - (r61 * i3)), v54)
          else
            some (v52, v53)
        : Option (Int32 × Int32)) fun x68 x69 =>
      fX5_more_L70 i1 i2 i3 ng_harvest ng_sets ng_wet nw_kinds nw_loves j13 n x68 x69 (v54 + 1)
def fX5_more (nw_people : Int32) (nw_kinds : Nat → Int32) (nw_loves : Nat → Int32) (ng_sets : Nat → Int32) (ng_wet : Int32) (ng_harvest : Int32) (i1 : Int32) (i2 : Int32) (i3 : Int32) (i4 : Int32) : Option (Int32) :=
  bd1 (fX4_isOne nw_people i1) fun r1 =>
  if r1 = 0 then
    some ((-1))
  else
    bd1 (fX5_isWithin i2 0 4) fun r4 =>
    if r4 = 0 then
      some ((-1))
    else
      bd1 (fX5_isWithin i3 0 20) fun r7 =>
      if r7 = 0 then
        some ((-1))
      else
        bd1 (fX5_isFlag i4) fun r10 =>
        if r10 = 0 then
          some ((-1))
        else
          bd1 (ix i1 6) fun j13 =>
          bd1 (fX4_worthOf nw_kinds nw_loves ng_sets ng_wet ng_harvest i1) fun r15 =>
          bd2 (fX5_more_L70 i1 i2 i3 ng_harvest ng_sets ng_wet nw_kinds nw_loves j13 fl r15 0 1) fun o58 o59 =>
          if i4 = 0 then
            some (o58)
          else
            some (o59)
def fX5_envy_L36 (i1 : Int32) (ng_harvest : Int32) (ng_sets : Nat → Int32) (ng_wet : Int32) (nw_kinds : Nat → Int32) (nw_loves : Nat → Int32) (nw_people : Int32) : Nat → Int32 → Int32 → Int32 → Option (Int32 × Int32)
  | 0, _, _, _ => none
  | n + 1, v32, v33, v34 =>
    if nw_people ≤ v34 then
      some (v32, v33)
    else
      bd1 (ix v34 6) fun j41 =>
      bd1 (fX4_worthOfSet nw_kinds nw_loves ng_sets ng_wet ng_harvest i1 (ng_sets j41)) fun r43 =>
      bd2 (if r43 ≤ v32 then
          some (v32, v33)
        else
          some (r43, v34)
        : Option (Int32 × Int32)) fun x46 x47 =>
      fX5_envy_L36 i1 ng_harvest ng_sets ng_wet nw_kinds nw_loves nw_people n x46 x47 (v34 + 1)
def fX5_envy (nw_people : Int32) (nw_kinds : Nat → Int32) (nw_loves : Nat → Int32) (ng_sets : Nat → Int32) (ng_wet : Int32) (ng_harvest : Int32) (i1 : Int32) (i2 : Int32) : Option (Int32) :=
  bd1 (fX4_isOne nw_people i1) fun r1 =>
  if r1 = 0 then
    some ((-1))
  else
    bd1 (fX5_isFlag i2) fun r4 =>
    if r4 = 0 then
      some ((-1))
    else
      bd1 (fX4_worthOf nw_kinds nw_loves ng_sets ng_wet ng_harvest i1) fun r7 =>
      bd2 (fX5_envy_L36 i1 ng_harvest ng_sets ng_wet nw_kinds nw_loves nw_people fl r7 (-4) 0) fun o38 o39 =>
      if o39 = (-4) then
        some (o39)
      else
        if i2 = 0 then
          some (o39)
        else
          some (o38)
def fX5_both (nw_people : Int32) (ng_sets : Nat → Int32) (i1 : Int32) (i2 : Int32) : Option (Int32) :=
  bd1 (fX4_isOne nw_people i1) fun r1 =>
  if r1 = 0 then
    some ((-1))
  else
    bd1 (fX4_isOne nw_people i2) fun r4 =>
    if r4 = 0 then
      some ((-1))
    else
      bd1 (ix i1 6) fun j7 =>
      bd1 (ix i2 6) fun j9 =>
      some (((ng_sets j7) &&& (ng_sets j9)))
def fX5_hands_L13 (i1 : Int32) (ng_sets : Nat → Int32) (nw_people : Int32) : Nat → Int32 → Int32 → Option (Int32)
  | 0, _, _ => none
  | n + 1, v24, v25 =>
    if nw_people ≤ v25 then
      some (v24)
    else
      bd1 (ix v25 6) fun j31 =>
      bd1 (fX5_isIn (ng_sets j31) i1) fun r33 =>
      bd1 (if r33 = 0 then
          some ((v24 ||| ((1 : Int32) <<< (v25 &&& 31))))
        else
          some (v24)
        : Option Int32) fun x36 =>
      fX5_hands_L13 i1 ng_sets nw_people n x36 (v25 + 1)
def fX5_hands (nw_people : Int32) (ng_sets : Nat → Int32) (i1 : Int32) : Option (Int32) :=
  bd1 (fX5_isHalf i1) fun r1 =>
  if r1 = 0 then
    some ((-1))
  else
    bd1 (fX5_hands_L13 i1 ng_sets nw_people fl 0 0) fun o29 =>
    some (o29)
theorem cal_X5_undo : CalV yX5_undo cX5_undo 1 (some .int) RX5 0 := ⟨t_545, t_543, t_544, t_37, by decide +kernel⟩
set_option maxHeartbeats 4000000 in
set_option maxRecDepth 100000 in
theorem cX5_undo_ok (l : Launch) (d : va_G) (cy : Nat → ClassId) (xx0 nw0 nw1 nw2 ng0 ng1 ng2 ng3 ps0 ps1 kp0 kq0 tr0 tp0 hs0 : Nat) (xx_isKept : Int32) (nw_people : Int32) (nw_fewest : Int32) (nw_kinds : Nat → Int32) (nw_loves : Nat → Int32) (ng_many : Nat → Int32) (ng_sets : Nat → Int32) (ng_chalk : Nat → Int32) (ng_wet : Int32) (ng_harvest : Int32) (ng_draw : Int32) (ps_known : Int32) (ps_r0 : Nat → Nat) (ps_r1 : Nat → Nat) (ps_r2 : Nat → Nat) (ps_r3 : Nat → Nat) (ps_many : Nat → Nat → Int32) (ps_sets : Nat → Nat → Int32) (ps_chalk : Nat → Nat → Int32) (ps_wet : Nat → Int32) (ps_harvest : Nat → Int32) (ps_draw : Nat → Int32) (r : Int32) (ng_many_r : Nat → Int32) (ng_sets_r : Nat → Int32) (ng_chalk_r : Nat → Int32) (ng_wet_r : Int32) (ng_harvest_r : Int32) (ng_draw_r : Int32) (ps_known_r : Int32) (h0 : fX5_undo ng_many ng_sets ng_chalk ng_wet ng_harvest ng_draw ps_known ps_many ps_sets ps_chalk ps_wet ps_harvest ps_draw = some (r, ng_many_r, ng_sets_r, ng_chalk_r, ng_wet_r, ng_harvest_r, ng_draw_r, ps_known_r)) : CI l yX5_undo cX5_undo 1 (some .int) 3 102 d cy [.ref xx0] (List.flatten [wX cy xx0 nw0 ps0 kp0 kq0 tr0 tp0 hs0 xx_isKept, wT cy nw0 nw1 nw2 ng0 nw_people nw_fewest nw_kinds nw_loves, wG cy ng0 ng1 ng2 ng3 ng_many ng_sets ng_chalk ng_wet ng_harvest ng_draw, wP cy ps0 ps1 ps_known ps_r0 ps_r1 ps_r2 ps_r3 ps_many ps_sets ps_chalk ps_wet ps_harvest ps_draw]) (List.flatten [wX cy xx0 nw0 ps0 kp0 kq0 tr0 tp0 hs0 xx_isKept, wT cy nw0 nw1 nw2 ng0 nw_people nw_fewest nw_kinds nw_loves, wG cy ng0 ng1 ng2 ng3 ng_many_r ng_sets_r ng_chalk_r ng_wet_r ng_harvest_r ng_draw_r, wP cy ps0 ps1 ps_known_r ps_r0 ps_r1 ps_r2 ps_r3 ps_many ps_sets ps_chalk ps_wet ps_harvest ps_draw]) r := by
  refine CI.of (by decide) (Nat.le_of_ble_eq_true rfl) ?_
  intro p e s m args below meth c A ls Q F hret hw hl
  have hx := F.1
  have hb := F.2.1
  have hl : lv_has ls 1 [(0, .ref xx0)] := hl
  rw [fX5_undo] at h0
  refine lv_aload_n hx hb dX5_undo_0 rfl (lv_at hl 0 rfl) ?_
  refine g_get F inG5 hw 0 rfl rfl 1 (by decide) t_186 (fun _ h9 => h9) rfl dX5_undo_1 ?_
  refine g_get F inG1 hw 8 rfl rfl 1 (by decide) t_139 (fun _ h9 => h9) rfl dX5_undo_4 ?_
  refine lv_if_ne (tgt := 13) hx hb dX5_undo_7 (by decide) (fun c1 => ?_) (fun c1 => ?_)
  · rw [if_neg c1] at h0
    refine lv_aload_n hx hb dX5_undo_13 rfl (lv_at hl 0 rfl) ?_
    refine g_get F inG5 hw 0 rfl rfl 1 (by decide) t_186 (fun _ h9 => h9) rfl dX5_undo_14 ?_
    refine lv_aload_n hx hb dX5_undo_17 rfl (lv_at hl 0 rfl) ?_
    refine g_get F inG5 hw 0 rfl rfl 0 (by decide) t_185 (fun _ h9 => h9) rfl dX5_undo_18 ?_
    refine g_get F inG4 hw 1 rfl rfl 4 (by decide) t_116 (fun _ h9 => h9) rfl dX5_undo_21 ?_
    obtain ⟨x2, f3, f4, f5, x6, x7, x8, k9, h10⟩ := ob7 h0
    clear h0
    refine g_vv F (cX1_bringBack_ok l d cy ps0 ps1 ng0 ng1 ng2 ng3 ps_known ps_r0 ps_r1 ps_r2 ps_r3 ps_many ps_sets ps_chalk ps_wet ps_harvest ps_draw ng_many ng_sets ng_chalk ng_wet ng_harvest ng_draw x2 f3 f4 f5 x6 x7 x8 k9) cal_X1_bringBack t_546 rfl ⟨by decide, by decide⟩ hw (w' := List.flatten [wX cy xx0 nw0 ps0 kp0 kq0 tr0 tp0 hs0 xx_isKept, wT cy nw0 nw1 nw2 ng0 nw_people nw_fewest nw_kinds nw_loves, wG cy ng0 ng1 ng2 ng3 f3 f4 f5 x6 x7 x8, wP cy ps0 ps1 x2 ps_r0 ps_r1 ps_r2 ps_r3 ps_many ps_sets ps_chalk ps_wet ps_harvest ps_draw]) (SCut.cut (SCut.ord [_, _] [_, _] [1, 0] (show List.Perm [1, 0] (List.range 2) by decide) rfl (SCut.skip (SCut.skip (SCut.take SCut.rf (SCut.take SCut.rf SCut.none)))))) 0 1 rfl rfl hl.1 (Nat.le_of_ble_eq_true rfl) rfl dX5_undo_24 (fun H locs hw => ?_)
    refine lv_aload_n hx hb dX5_undo_27 rfl (lv_at hl 0 rfl) ?_
    refine g_get F inG5 hw 0 rfl rfl 1 (by decide) t_186 (fun _ h9 => h9) rfl dX5_undo_28 ?_
    refine g_get F inG1 hw 8 rfl rfl 1 (by decide) t_139 (fun _ h9 => h9) rfl dX5_undo_31 ?_
    obtain ⟨rfl, rfl, rfl, rfl, rfl, rfl, rfl, rfl⟩ := inj8 h10
    exact hret _ _ _ _ hw dX5_undo_34
  · rw [if_pos c1] at h0
    refine lv_bipush (v := (-4)) hx hb dX5_undo_10 (by decide) ?_
    obtain ⟨rfl, rfl, rfl, rfl, rfl, rfl, rfl, rfl⟩ := inj8 h0
    exact hret _ _ _ _ hw dX5_undo_12
theorem cal_X5_seed : CalV yX5_seed cX5_seed 3 (some .int) RX5 1 := ⟨t_553, t_551, t_552, t_37, by decide +kernel⟩
set_option maxHeartbeats 4000000 in
set_option maxRecDepth 100000 in
theorem cX5_seed_ok (l : Launch) (d : va_G) (cy : Nat → ClassId) (xx0 nw0 nw1 nw2 ng0 ng1 ng2 ng3 ps0 kp0 kq0 tr0 tp0 hs0 : Nat) (xx_isKept : Int32) (nw_people : Int32) (nw_fewest : Int32) (nw_kinds : Nat → Int32) (nw_loves : Nat → Int32) (ng_many : Nat → Int32) (ng_sets : Nat → Int32) (ng_chalk : Nat → Int32) (ng_wet : Int32) (ng_harvest : Int32) (ng_draw : Int32) (i1 : Int32) (r : Int32) (ng_draw_r : Int32) (h0 : fX5_seed ng_draw i1 = some (r, ng_draw_r)) : CI l yX5_seed cX5_seed 3 (some .int) 0 0 d cy [.ref xx0, .int i1] (List.flatten [wX cy xx0 nw0 ps0 kp0 kq0 tr0 tp0 hs0 xx_isKept, wT cy nw0 nw1 nw2 ng0 nw_people nw_fewest nw_kinds nw_loves, wG cy ng0 ng1 ng2 ng3 ng_many ng_sets ng_chalk ng_wet ng_harvest ng_draw]) (List.flatten [wX cy xx0 nw0 ps0 kp0 kq0 tr0 tp0 hs0 xx_isKept, wT cy nw0 nw1 nw2 ng0 nw_people nw_fewest nw_kinds nw_loves, wG cy ng0 ng1 ng2 ng3 ng_many ng_sets ng_chalk ng_wet ng_harvest ng_draw_r]) r := by
  refine CI.of (by decide) (Nat.le_of_ble_eq_true rfl) ?_
  intro p e s m args below meth c A ls Q F hret hw hl
  have hx := F.1
  have hb := F.2.1
  have hl : lv_has ls 3 [(0, .ref xx0), (1, .int i1)] := hl
  rw [fX5_seed] at h0
  refine lv_iload_n hx hb dX5_seed_0 rfl (lv_at hl 1 rfl) ?_
  refine lv_if_ge (tgt := 6) hx hb dX5_seed_1 (by decide) (fun c1 => ?_) (fun c1 => ?_)
  · rw [if_pos c1] at h0
    refine lv_aload_n hx hb dX5_seed_6 rfl (lv_at hl 0 rfl) ?_
    refine g_get F inG5 hw 0 rfl rfl 0 (by decide) t_185 (fun _ h9 => h9) rfl dX5_seed_7 ?_
    refine g_get F inG4 hw 1 rfl rfl 4 (by decide) t_116 (fun _ h9 => h9) rfl dX5_seed_10 ?_
    refine g_get F inG0 hw 4 rfl rfl 5 (by decide) t_88 (fun _ h9 => h9) rfl dX5_seed_13 ?_
    refine lv_istore_n (lv' := [(2, .int ng_draw), (0, .ref xx0), (1, .int i1)]) hx hb dX5_seed_16 rfl hl (by decide) rfl (fun ls hl => ?_)
    refine lv_aload_n hx hb dX5_seed_17 rfl (lv_at hl 1 rfl) ?_
    refine g_get F inG5 hw 0 rfl rfl 0 (by decide) t_185 (fun _ h9 => h9) rfl dX5_seed_18 ?_
    refine g_get F inG4 hw 1 rfl rfl 4 (by decide) t_116 (fun _ h9 => h9) rfl dX5_seed_21 ?_
    refine lv_iload_n hx hb dX5_seed_24 rfl (lv_at hl 2 rfl) ?_
    refine g_put F inG0 tyX0 tyX0_ok nmX0 hw 4 rfl rfl 5 (by decide) t_88 (fun _ h9 => h9) rfl (ty := .int) (by decide +kernel) rfl rfl (Nat.le_of_ble_eq_true rfl) dX5_seed_25 (w' := List.flatten [wX cy xx0 nw0 ps0 kp0 kq0 tr0 tp0 hs0 xx_isKept, wT cy nw0 nw1 nw2 ng0 nw_people nw_fewest nw_kinds nw_loves, wG cy ng0 ng1 ng2 ng3 ng_many ng_sets ng_chalk ng_wet ng_harvest i1]) rfl (fun H locs hw => ?_)
    refine lv_iload_n hx hb dX5_seed_28 rfl (lv_at hl 0 rfl) ?_
    obtain ⟨rfl, rfl⟩ := inj2 h0
    exact hret _ _ _ _ hw dX5_seed_29
  · rw [if_neg c1] at h0
    refine lv_iconst (v := (-1)) hx hb dX5_seed_4 (by decide) ?_
    obtain ⟨rfl, rfl⟩ := inj2 h0
    exact hret _ _ _ _ hw dX5_seed_5
theorem cal_X5_gain : CalV yX5_gain cX5_gain 4 (some .int) RX5 3 := ⟨t_557, t_555, t_556, t_37, by decide +kernel⟩
set_option maxHeartbeats 4000000 in
set_option maxRecDepth 100000 in
theorem cX5_gain_ok (l : Launch) (d : va_G) (cy : Nat → ClassId) (xx0 nw0 nw1 nw2 ng0 ng1 ng2 ng3 ps0 kp0 kq0 tr0 tp0 hs0 : Nat) (xx_isKept : Int32) (nw_people : Int32) (nw_fewest : Int32) (nw_kinds : Nat → Int32) (nw_loves : Nat → Int32) (ng_many : Nat → Int32) (ng_sets : Nat → Int32) (ng_chalk : Nat → Int32) (ng_wet : Int32) (ng_harvest : Int32) (ng_draw : Int32) (i1 : Int32) (i2 : Int32) (i3 : Int32) (r : Int32) (ng_many_r : Nat → Int32) (ng_sets_r : Nat → Int32) (h0 : fX5_gain nw_people nw_kinds nw_loves ng_many ng_sets ng_wet ng_harvest i1 i2 i3 = some (r, ng_many_r, ng_sets_r)) : CI l yX5_gain cX5_gain 4 (some .int) 5 120 d cy [.ref xx0, .int i1, .int i2, .int i3] (List.flatten [wX cy xx0 nw0 ps0 kp0 kq0 tr0 tp0 hs0 xx_isKept, wT cy nw0 nw1 nw2 ng0 nw_people nw_fewest nw_kinds nw_loves, wG cy ng0 ng1 ng2 ng3 ng_many ng_sets ng_chalk ng_wet ng_harvest ng_draw]) (List.flatten [wX cy xx0 nw0 ps0 kp0 kq0 tr0 tp0 hs0 xx_isKept, wT cy nw0 nw1 nw2 ng0 nw_people nw_fewest nw_kinds nw_loves, wG cy ng0 ng1 ng2 ng3 ng_many_r ng_sets_r ng_chalk ng_wet ng_harvest ng_draw]) r := by
  refine CI.of (by decide) (Nat.le_of_ble_eq_true rfl) ?_
  intro p e s m args below meth c A ls Q F hret hw hl
  have hx := F.1
  have hb := F.2.1
  have hl : lv_has ls 4 [(0, .ref xx0), (1, .int i1), (2, .int i2), (3, .int i3)] := hl
  rw [fX5_gain] at h0
  refine lv_aload_n hx hb dX5_gain_0 rfl (lv_at hl 0 rfl) ?_
  refine g_get F inG5 hw 0 rfl rfl 0 (by decide) t_185 (fun _ h9 => h9) rfl dX5_gain_1 ?_
  refine lv_iload_n hx hb dX5_gain_4 rfl (lv_at hl 1 rfl) ?_
  refine lv_iload_n hx hb dX5_gain_5 rfl (lv_at hl 2 rfl) ?_
  obtain ⟨r1, k2, h14⟩ := ob1 h0
  clear h0
  refine g_vi F (cX4_areTwo_ok l d cy nw0 nw1 nw2 ng0 ng1 ng2 ng3 nw_people nw_fewest nw_kinds nw_loves ng_many ng_sets ng_chalk ng_wet ng_harvest ng_draw i1 i2 r1 k2) cal_X4_areTwo t_472 rfl ⟨by decide, by decide⟩ hw (w' := List.flatten [wX cy xx0 nw0 ps0 kp0 kq0 tr0 tp0 hs0 xx_isKept, wT cy nw0 nw1 nw2 ng0 nw_people nw_fewest nw_kinds nw_loves, wG cy ng0 ng1 ng2 ng3 ng_many ng_sets ng_chalk ng_wet ng_harvest ng_draw]) (SCut.cut (SCut.skip (SCut.take SCut.rf (SCut.take SCut.rf SCut.none)))) 0 4 rfl rfl hl.1 (Nat.le_of_ble_eq_true rfl) rfl dX5_gain_6 (fun H locs hw => ?_)
  refine lv_if_eq (tgt := 19) hx hb dX5_gain_9 (by decide) (fun c3 => ?_) (fun c3 => ?_)
  · rw [if_pos c3] at h14
    refine lv_iconst (v := (-1)) hx hb dX5_gain_19 (by decide) ?_
    obtain ⟨rfl, rfl, rfl⟩ := inj3 h14
    exact hret _ _ _ _ hw dX5_gain_20
  · rw [if_neg c3] at h14
    refine lv_iload_n hx hb dX5_gain_12 rfl (lv_at hl 3 rfl) ?_
    obtain ⟨r4, k5, h15⟩ := ob1 h14
    clear h14
    refine g_si F (cX5_isHalf_ok l d cy i3 r4 k5) cal_X5_isHalf t_275 rfl ⟨by decide, by decide⟩ hw (w' := List.flatten [wX cy xx0 nw0 ps0 kp0 kq0 tr0 tp0 hs0 xx_isKept, wT cy nw0 nw1 nw2 ng0 nw_people nw_fewest nw_kinds nw_loves, wG cy ng0 ng1 ng2 ng3 ng_many ng_sets ng_chalk ng_wet ng_harvest ng_draw]) Cut.nil hl.1 (Nat.le_of_ble_eq_true rfl) rfl dX5_gain_13 (fun H locs hw => ?_)
    refine lv_if_ne (tgt := 21) hx hb dX5_gain_16 (by decide) (fun c6 => ?_) (fun c6 => ?_)
    · rw [if_neg c6] at h15
      refine lv_aload_n hx hb dX5_gain_21 rfl (lv_at hl 0 rfl) ?_
      refine g_get F inG5 hw 0 rfl rfl 0 (by decide) t_185 (fun _ h9 => h9) rfl dX5_gain_22 ?_
      refine g_get F inG4 hw 1 rfl rfl 4 (by decide) t_116 (fun _ h9 => h9) rfl dX5_gain_25 ?_
      refine lv_iload_n hx hb dX5_gain_28 rfl (lv_at hl 1 rfl) ?_
      refine lv_iload_n hx hb dX5_gain_29 rfl (lv_at hl 3 rfl) ?_
      obtain ⟨r7, k8, h16⟩ := ob1 h15
      clear h15
      refine g_vi F (cX0_manyOf_ok l d cy ng0 ng1 ng2 ng3 ng_many ng_sets ng_chalk ng_wet ng_harvest ng_draw i1 i3 r7 k8) cal_X0_manyOf t_281 rfl ⟨by decide, by decide⟩ hw (w' := List.flatten [wX cy xx0 nw0 ps0 kp0 kq0 tr0 tp0 hs0 xx_isKept, wT cy nw0 nw1 nw2 ng0 nw_people nw_fewest nw_kinds nw_loves, wG cy ng0 ng1 ng2 ng3 ng_many ng_sets ng_chalk ng_wet ng_harvest ng_draw]) (SCut.cut (SCut.one (SCut.skip (SCut.skip (SCut.take SCut.rf SCut.none))))) 0 0 rfl rfl hl.1 (Nat.le_of_ble_eq_true rfl) rfl dX5_gain_30 (fun H locs hw => ?_)
      refine lv_if_ne (tgt := 39) hx hb dX5_gain_33 (by decide) (fun c9 => ?_) (fun c9 => ?_)
      · rw [if_neg c9] at h16
        refine lv_sipush (v := 1000) hx hb dX5_gain_39 (by decide) ?_
        refine lv_aload_n hx hb dX5_gain_42 rfl (lv_at hl 0 rfl) ?_
        refine g_get F inG5 hw 0 rfl rfl 0 (by decide) t_185 (fun _ h9 => h9) rfl dX5_gain_43 ?_
        refine lv_iload_n hx hb dX5_gain_46 rfl (lv_at hl 1 rfl) ?_
        refine lv_iload_n hx hb dX5_gain_47 rfl (lv_at hl 2 rfl) ?_
        refine lv_iload_n hx hb dX5_gain_48 rfl (lv_at hl 3 rfl) ?_
        obtain ⟨r10, f11, f12, k13, h17⟩ := ob3 h16
        clear h16
        refine g_vi F (cX4_gainOfSale_ok l d cy nw0 nw1 nw2 ng0 ng1 ng2 ng3 nw_people nw_fewest nw_kinds nw_loves ng_many ng_sets ng_chalk ng_wet ng_harvest ng_draw i1 i2 i3 r10 f11 f12 k13) cal_X4_gainOfSale t_558 rfl ⟨by decide, by decide⟩ hw (w' := List.flatten [wX cy xx0 nw0 ps0 kp0 kq0 tr0 tp0 hs0 xx_isKept, wT cy nw0 nw1 nw2 ng0 nw_people nw_fewest nw_kinds nw_loves, wG cy ng0 ng1 ng2 ng3 f11 f12 ng_chalk ng_wet ng_harvest ng_draw]) (SCut.cut (SCut.skip (SCut.take SCut.rf (SCut.take SCut.rf SCut.none)))) 0 4 rfl rfl hl.1 (Nat.le_of_ble_eq_true rfl) rfl dX5_gain_49 (fun H locs hw => ?_)
        refine lv_iadd hx hb dX5_gain_52 ?_
        obtain ⟨rfl, rfl, rfl⟩ := inj3 h17
        exact hret _ _ _ _ hw dX5_gain_53
      · rw [if_pos c9] at h16
        refine lv_bipush (v := (-2)) hx hb dX5_gain_36 (by decide) ?_
        obtain ⟨rfl, rfl, rfl⟩ := inj3 h16
        exact hret _ _ _ _ hw dX5_gain_38
    · rw [if_pos c6] at h15
      refine lv_iconst (v := (-1)) hx hb dX5_gain_19 (by decide) ?_
      obtain ⟨rfl, rfl, rfl⟩ := inj3 h15
      exact hret _ _ _ _ hw dX5_gain_20
theorem cal_X5_middle : CalV yX5_middle cX5_middle 4 (some .int) RX5 3 := ⟨t_569, t_567, t_568, t_37, by decide +kernel⟩
set_option maxHeartbeats 4000000 in
set_option maxRecDepth 100000 in
theorem cX5_middle_ok (l : Launch) (d : va_G) (cy : Nat → ClassId) (xx0 nw0 nw1 nw2 ng0 ng1 ng2 ng3 ps0 kp0 kq0 tr0 tp0 hs0 : Nat) (xx_isKept : Int32) (nw_people : Int32) (nw_fewest : Int32) (nw_kinds : Nat → Int32) (nw_loves : Nat → Int32) (ng_many : Nat → Int32) (ng_sets : Nat → Int32) (ng_chalk : Nat → Int32) (ng_wet : Int32) (ng_harvest : Int32) (ng_draw : Int32) (i1 : Int32) (i2 : Int32) (i3 : Int32) (r : Int32) (ng_many_r : Nat → Int32) (ng_sets_r : Nat → Int32) (h0 : fX5_middle nw_people nw_kinds nw_loves ng_many ng_sets ng_wet ng_harvest i1 i2 i3 = some (r, ng_many_r, ng_sets_r)) : CI l yX5_middle cX5_middle 4 (some .int) 5 123 d cy [.ref xx0, .int i1, .int i2, .int i3] (List.flatten [wX cy xx0 nw0 ps0 kp0 kq0 tr0 tp0 hs0 xx_isKept, wT cy nw0 nw1 nw2 ng0 nw_people nw_fewest nw_kinds nw_loves, wG cy ng0 ng1 ng2 ng3 ng_many ng_sets ng_chalk ng_wet ng_harvest ng_draw]) (List.flatten [wX cy xx0 nw0 ps0 kp0 kq0 tr0 tp0 hs0 xx_isKept, wT cy nw0 nw1 nw2 ng0 nw_people nw_fewest nw_kinds nw_loves, wG cy ng0 ng1 ng2 ng3 ng_many_r ng_sets_r ng_chalk ng_wet ng_harvest ng_draw]) r := by
  refine CI.of (by decide) (Nat.le_of_ble_eq_true rfl) ?_
  intro p e s m args below meth c A ls Q F hret hw hl
  have hx := F.1
  have hb := F.2.1
  have hl : lv_has ls 4 [(0, .ref xx0), (1, .int i1), (2, .int i2), (3, .int i3)] := hl
  rw [fX5_middle] at h0
  refine lv_aload_n hx hb dX5_middle_0 rfl (lv_at hl 0 rfl) ?_
  refine g_get F inG5 hw 0 rfl rfl 0 (by decide) t_185 (fun _ h9 => h9) rfl dX5_middle_1 ?_
  refine lv_iload_n hx hb dX5_middle_4 rfl (lv_at hl 1 rfl) ?_
  refine lv_iload_n hx hb dX5_middle_5 rfl (lv_at hl 2 rfl) ?_
  obtain ⟨r1, k2, h14⟩ := ob1 h0
  clear h0
  refine g_vi F (cX4_areTwo_ok l d cy nw0 nw1 nw2 ng0 ng1 ng2 ng3 nw_people nw_fewest nw_kinds nw_loves ng_many ng_sets ng_chalk ng_wet ng_harvest ng_draw i1 i2 r1 k2) cal_X4_areTwo t_472 rfl ⟨by decide, by decide⟩ hw (w' := List.flatten [wX cy xx0 nw0 ps0 kp0 kq0 tr0 tp0 hs0 xx_isKept, wT cy nw0 nw1 nw2 ng0 nw_people nw_fewest nw_kinds nw_loves, wG cy ng0 ng1 ng2 ng3 ng_many ng_sets ng_chalk ng_wet ng_harvest ng_draw]) (SCut.cut (SCut.skip (SCut.take SCut.rf (SCut.take SCut.rf SCut.none)))) 0 4 rfl rfl hl.1 (Nat.le_of_ble_eq_true rfl) rfl dX5_middle_6 (fun H locs hw => ?_)
  refine lv_if_eq (tgt := 19) hx hb dX5_middle_9 (by decide) (fun c3 => ?_) (fun c3 => ?_)
  · rw [if_pos c3] at h14
    refine lv_iconst (v := (-1)) hx hb dX5_middle_19 (by decide) ?_
    obtain ⟨rfl, rfl, rfl⟩ := inj3 h14
    exact hret _ _ _ _ hw dX5_middle_20
  · rw [if_neg c3] at h14
    refine lv_iload_n hx hb dX5_middle_12 rfl (lv_at hl 3 rfl) ?_
    obtain ⟨r4, k5, h15⟩ := ob1 h14
    clear h14
    refine g_si F (cX5_isHalf_ok l d cy i3 r4 k5) cal_X5_isHalf t_275 rfl ⟨by decide, by decide⟩ hw (w' := List.flatten [wX cy xx0 nw0 ps0 kp0 kq0 tr0 tp0 hs0 xx_isKept, wT cy nw0 nw1 nw2 ng0 nw_people nw_fewest nw_kinds nw_loves, wG cy ng0 ng1 ng2 ng3 ng_many ng_sets ng_chalk ng_wet ng_harvest ng_draw]) Cut.nil hl.1 (Nat.le_of_ble_eq_true rfl) rfl dX5_middle_13 (fun H locs hw => ?_)
    refine lv_if_ne (tgt := 21) hx hb dX5_middle_16 (by decide) (fun c6 => ?_) (fun c6 => ?_)
    · rw [if_neg c6] at h15
      refine lv_aload_n hx hb dX5_middle_21 rfl (lv_at hl 0 rfl) ?_
      refine g_get F inG5 hw 0 rfl rfl 0 (by decide) t_185 (fun _ h9 => h9) rfl dX5_middle_22 ?_
      refine g_get F inG4 hw 1 rfl rfl 4 (by decide) t_116 (fun _ h9 => h9) rfl dX5_middle_25 ?_
      refine lv_iload_n hx hb dX5_middle_28 rfl (lv_at hl 1 rfl) ?_
      refine lv_iload_n hx hb dX5_middle_29 rfl (lv_at hl 3 rfl) ?_
      obtain ⟨r7, k8, h16⟩ := ob1 h15
      clear h15
      refine g_vi F (cX0_manyOf_ok l d cy ng0 ng1 ng2 ng3 ng_many ng_sets ng_chalk ng_wet ng_harvest ng_draw i1 i3 r7 k8) cal_X0_manyOf t_281 rfl ⟨by decide, by decide⟩ hw (w' := List.flatten [wX cy xx0 nw0 ps0 kp0 kq0 tr0 tp0 hs0 xx_isKept, wT cy nw0 nw1 nw2 ng0 nw_people nw_fewest nw_kinds nw_loves, wG cy ng0 ng1 ng2 ng3 ng_many ng_sets ng_chalk ng_wet ng_harvest ng_draw]) (SCut.cut (SCut.one (SCut.skip (SCut.skip (SCut.take SCut.rf SCut.none))))) 0 0 rfl rfl hl.1 (Nat.le_of_ble_eq_true rfl) rfl dX5_middle_30 (fun H locs hw => ?_)
      refine lv_if_ne (tgt := 39) hx hb dX5_middle_33 (by decide) (fun c9 => ?_) (fun c9 => ?_)
      · rw [if_neg c9] at h16
        refine lv_aload_n hx hb dX5_middle_39 rfl (lv_at hl 0 rfl) ?_
        refine g_get F inG5 hw 0 rfl rfl 0 (by decide) t_185 (fun _ h9 => h9) rfl dX5_middle_40 ?_
        refine lv_iload_n hx hb dX5_middle_43 rfl (lv_at hl 1 rfl) ?_
        refine lv_iload_n hx hb dX5_middle_44 rfl (lv_at hl 2 rfl) ?_
        refine lv_iload_n hx hb dX5_middle_45 rfl (lv_at hl 3 rfl) ?_
        obtain ⟨r10, f11, f12, k13, h17⟩ := ob3 h16
        clear h16
        refine g_vi F (cX4_middleOfSale_ok l d cy nw0 nw1 nw2 ng0 ng1 ng2 ng3 nw_people nw_fewest nw_kinds nw_loves ng_many ng_sets ng_chalk ng_wet ng_harvest ng_draw i1 i2 i3 r10 f11 f12 k13) cal_X4_middleOfSale t_570 rfl ⟨by decide, by decide⟩ hw (w' := List.flatten [wX cy xx0 nw0 ps0 kp0 kq0 tr0 tp0 hs0 xx_isKept, wT cy nw0 nw1 nw2 ng0 nw_people nw_fewest nw_kinds nw_loves, wG cy ng0 ng1 ng2 ng3 f11 f12 ng_chalk ng_wet ng_harvest ng_draw]) (SCut.cut (SCut.skip (SCut.take SCut.rf (SCut.take SCut.rf SCut.none)))) 0 4 rfl rfl hl.1 (Nat.le_of_ble_eq_true rfl) rfl dX5_middle_46 (fun H locs hw => ?_)
        obtain ⟨rfl, rfl, rfl⟩ := inj3 h17
        exact hret _ _ _ _ hw dX5_middle_49
      · rw [if_pos c9] at h16
        refine lv_bipush (v := (-2)) hx hb dX5_middle_36 (by decide) ?_
        obtain ⟨rfl, rfl, rfl⟩ := inj3 h16
        exact hret _ _ _ _ hw dX5_middle_38
    · rw [if_pos c6] at h15
      refine lv_iconst (v := (-1)) hx hb dX5_middle_19 (by decide) ?_
      obtain ⟨rfl, rfl, rfl⟩ := inj3 h15
      exact hret _ _ _ _ hw dX5_middle_20
theorem cal_X5_best : CalV yX5_best cX5_best 3 (some .int) RX5 1 := ⟨t_574, t_572, t_573, t_37, by decide +kernel⟩
set_option maxHeartbeats 4000000 in
set_option maxRecDepth 100000 in
theorem cX5_best_ok (l : Launch) (d : va_G) (cy : Nat → ClassId) (xx0 nw0 nw1 nw2 ng0 ng1 ng2 ng3 ps0 kp0 kq0 tr0 tp0 hs0 : Nat) (xx_isKept : Int32) (nw_people : Int32) (nw_fewest : Int32) (nw_kinds : Nat → Int32) (nw_loves : Nat → Int32) (ng_many : Nat → Int32) (ng_sets : Nat → Int32) (ng_chalk : Nat → Int32) (ng_wet : Int32) (ng_harvest : Int32) (ng_draw : Int32) (i1 : Int32) (r : Int32) (ng_many_r : Nat → Int32) (ng_sets_r : Nat → Int32) (h0 : fX5_best nw_people nw_fewest nw_kinds nw_loves ng_many ng_sets ng_chalk ng_wet ng_harvest i1 = some (r, ng_many_r, ng_sets_r)) : CI l yX5_best cX5_best 3 (some .int) 6 146 d cy [.ref xx0, .int i1] (List.flatten [wX cy xx0 nw0 ps0 kp0 kq0 tr0 tp0 hs0 xx_isKept, wT cy nw0 nw1 nw2 ng0 nw_people nw_fewest nw_kinds nw_loves, wG cy ng0 ng1 ng2 ng3 ng_many ng_sets ng_chalk ng_wet ng_harvest ng_draw]) (List.flatten [wX cy xx0 nw0 ps0 kp0 kq0 tr0 tp0 hs0 xx_isKept, wT cy nw0 nw1 nw2 ng0 nw_people nw_fewest nw_kinds nw_loves, wG cy ng0 ng1 ng2 ng3 ng_many_r ng_sets_r ng_chalk ng_wet ng_harvest ng_draw]) r := by
  refine CI.of (by decide) (Nat.le_of_ble_eq_true rfl) ?_
  intro p e s m args below meth c A ls Q F hret hw hl
  have hx := F.1
  have hb := F.2.1
  have hl : lv_has ls 3 [(0, .ref xx0), (1, .int i1)] := hl
  rw [fX5_best] at h0
  refine lv_iload_n hx hb dX5_best_0 rfl (lv_at hl 1 rfl) ?_
  obtain ⟨r1, k2, h20⟩ := ob1 h0
  clear h0
  refine g_si F (cX5_isFlag_ok l d cy i1 r1 k2) cal_X5_isFlag t_278 rfl ⟨by decide, by decide⟩ hw (w' := List.flatten [wX cy xx0 nw0 ps0 kp0 kq0 tr0 tp0 hs0 xx_isKept, wT cy nw0 nw1 nw2 ng0 nw_people nw_fewest nw_kinds nw_loves, wG cy ng0 ng1 ng2 ng3 ng_many ng_sets ng_chalk ng_wet ng_harvest ng_draw]) Cut.nil hl.1 (Nat.le_of_ble_eq_true rfl) rfl dX5_best_1 (fun H locs hw => ?_)
  refine lv_if_ne (tgt := 9) hx hb dX5_best_4 (by decide) (fun c3 => ?_) (fun c3 => ?_)
  · rw [if_neg c3] at h20
    refine lv_aload_n hx hb dX5_best_9 rfl (lv_at hl 0 rfl) ?_
    refine g_get F inG5 hw 0 rfl rfl 0 (by decide) t_185 (fun _ h9 => h9) rfl dX5_best_10 ?_
    obtain ⟨r4, f5, f6, k7, h21⟩ := ob3 h20
    clear h20
    refine g_vi F (cX4_bestSale_ok l d cy nw0 nw1 nw2 ng0 ng1 ng2 ng3 nw_people nw_fewest nw_kinds nw_loves ng_many ng_sets ng_chalk ng_wet ng_harvest ng_draw r4 f5 f6 k7) cal_X4_bestSale t_575 rfl ⟨by decide, by decide⟩ hw (w' := List.flatten [wX cy xx0 nw0 ps0 kp0 kq0 tr0 tp0 hs0 xx_isKept, wT cy nw0 nw1 nw2 ng0 nw_people nw_fewest nw_kinds nw_loves, wG cy ng0 ng1 ng2 ng3 f5 f6 ng_chalk ng_wet ng_harvest ng_draw]) (SCut.cut (SCut.skip (SCut.take SCut.rf (SCut.take SCut.rf SCut.none)))) 0 4 rfl rfl hl.1 (Nat.le_of_ble_eq_true rfl) rfl dX5_best_13 (fun H locs hw => ?_)
    refine lv_istore_n (lv' := [(2, .int r4), (0, .ref xx0), (1, .int i1)]) hx hb dX5_best_16 rfl hl (by decide) rfl (fun ls hl => ?_)
    refine lv_iload_n hx hb dX5_best_17 rfl (lv_at hl 0 rfl) ?_
    refine lv_bipush (v := (-4)) hx hb dX5_best_18 (by decide) ?_
    refine lv_icmp_eq (tgt := 27) hx hb dX5_best_20 (by decide) (fun c8 => ?_) (fun c8 => ?_)
    · rw [if_pos c8] at h21
      refine lv_iload_n hx hb dX5_best_27 rfl (lv_at hl 0 rfl) ?_
      obtain ⟨rfl, rfl, rfl⟩ := inj3 h21
      exact hret _ _ _ _ hw dX5_best_28
    · rw [if_neg c8] at h21
      refine lv_iload_n hx hb dX5_best_23 rfl (lv_at hl 2 rfl) ?_
      refine lv_if_ne (tgt := 29) hx hb dX5_best_24 (by decide) (fun c9 => ?_) (fun c9 => ?_)
      · rw [if_neg c9] at h21
        refine lv_aload_n hx hb dX5_best_29 rfl (lv_at hl 1 rfl) ?_
        refine g_get F inG5 hw 0 rfl rfl 0 (by decide) t_185 (fun _ h9 => h9) rfl dX5_best_30 ?_
        refine lv_iload_n hx hb dX5_best_33 rfl (lv_at hl 0 rfl) ?_
        obtain ⟨r10, k11, h22⟩ := ob1 h21
        clear h21
        refine g_si F (cX5_sellerOf_ok l d cy r4 r10 k11) cal_X5_sellerOf t_588 rfl ⟨by decide, by decide⟩ hw (w' := List.flatten [wX cy xx0 nw0 ps0 kp0 kq0 tr0 tp0 hs0 xx_isKept, wT cy nw0 nw1 nw2 ng0 nw_people nw_fewest nw_kinds nw_loves, wG cy ng0 ng1 ng2 ng3 f5 f6 ng_chalk ng_wet ng_harvest ng_draw]) Cut.nil hl.1 (Nat.le_of_ble_eq_true rfl) rfl dX5_best_34 (fun H locs hw => ?_)
        refine lv_iload_n hx hb dX5_best_37 rfl (lv_at hl 0 rfl) ?_
        obtain ⟨r12, k13, h23⟩ := ob1 h22
        clear h22
        refine g_si F (cX5_buyerOf_ok l d cy r4 r12 k13) cal_X5_buyerOf t_591 rfl ⟨by decide, by decide⟩ hw (w' := List.flatten [wX cy xx0 nw0 ps0 kp0 kq0 tr0 tp0 hs0 xx_isKept, wT cy nw0 nw1 nw2 ng0 nw_people nw_fewest nw_kinds nw_loves, wG cy ng0 ng1 ng2 ng3 f5 f6 ng_chalk ng_wet ng_harvest ng_draw]) Cut.nil hl.1 (Nat.le_of_ble_eq_true rfl) rfl dX5_best_38 (fun H locs hw => ?_)
        refine lv_iload_n hx hb dX5_best_41 rfl (lv_at hl 0 rfl) ?_
        obtain ⟨r14, k15, h24⟩ := ob1 h23
        clear h23
        refine g_si F (cX5_halfOf_ok l d cy r4 r14 k15) cal_X5_halfOf t_594 rfl ⟨by decide, by decide⟩ hw (w' := List.flatten [wX cy xx0 nw0 ps0 kp0 kq0 tr0 tp0 hs0 xx_isKept, wT cy nw0 nw1 nw2 ng0 nw_people nw_fewest nw_kinds nw_loves, wG cy ng0 ng1 ng2 ng3 f5 f6 ng_chalk ng_wet ng_harvest ng_draw]) Cut.nil hl.1 (Nat.le_of_ble_eq_true rfl) rfl dX5_best_42 (fun H locs hw => ?_)
        obtain ⟨r16, f17, f18, k19, h25⟩ := ob3 h24
        clear h24
        refine g_vi F (cX4_gainOfSale_ok l d cy nw0 nw1 nw2 ng0 ng1 ng2 ng3 nw_people nw_fewest nw_kinds nw_loves f5 f6 ng_chalk ng_wet ng_harvest ng_draw r10 r12 r14 r16 f17 f18 k19) cal_X4_gainOfSale t_558 rfl ⟨by decide, by decide⟩ hw (w' := List.flatten [wX cy xx0 nw0 ps0 kp0 kq0 tr0 tp0 hs0 xx_isKept, wT cy nw0 nw1 nw2 ng0 nw_people nw_fewest nw_kinds nw_loves, wG cy ng0 ng1 ng2 ng3 f17 f18 ng_chalk ng_wet ng_harvest ng_draw]) (SCut.cut (SCut.skip (SCut.take SCut.rf (SCut.take SCut.rf SCut.none)))) 0 4 rfl rfl hl.1 (Nat.le_of_ble_eq_true rfl) rfl dX5_best_45 (fun H locs hw => ?_)
        obtain ⟨rfl, rfl, rfl⟩ := inj3 h25
        exact hret _ _ _ _ hw dX5_best_48
      · rw [if_pos c9] at h21
        refine lv_iload_n hx hb dX5_best_27 rfl (lv_at hl 0 rfl) ?_
        obtain ⟨rfl, rfl, rfl⟩ := inj3 h21
        exact hret _ _ _ _ hw dX5_best_28
  · rw [if_pos c3] at h20
    refine lv_iconst (v := (-1)) hx hb dX5_best_7 (by decide) ?_
    obtain ⟨rfl, rfl, rfl⟩ := inj3 h20
    exact hret _ _ _ _ hw dX5_best_8
theorem cal_X5_market : CalV yX5_market cX5_market 4 (some .int) RX5 1 := ⟨t_600, t_598, t_599, t_37, by decide +kernel⟩
set_option maxHeartbeats 4000000 in
set_option maxRecDepth 100000 in
theorem cX5_market_ok (l : Launch) (d : va_G) (cy : Nat → ClassId) (xx0 nw0 nw1 nw2 ng0 ng1 ng2 ng3 tr0 tr1 tr2 tg0 tg1 tg2 tg3 ps0 kp0 kq0 tp0 hs0 : Nat) (xx_isKept : Int32) (nw_people : Int32) (nw_fewest : Int32) (nw_kinds : Nat → Int32) (nw_loves : Nat → Int32) (ng_many : Nat → Int32) (ng_sets : Nat → Int32) (ng_chalk : Nat → Int32) (ng_wet : Int32) (ng_harvest : Int32) (ng_draw : Int32) (tr_people : Int32) (tr_fewest : Int32) (tr_kinds : Nat → Int32) (tr_loves : Nat → Int32) (tg_many : Nat → Int32) (tg_sets : Nat → Int32) (tg_chalk : Nat → Int32) (tg_wet : Int32) (tg_harvest : Int32) (tg_draw : Int32) (i1 : Int32) (r : Int32) (tr_people_r : Int32) (tr_fewest_r : Int32) (tr_kinds_r : Nat → Int32) (tr_loves_r : Nat → Int32) (tg_many_r : Nat → Int32) (tg_sets_r : Nat → Int32) (tg_chalk_r : Nat → Int32) (tg_wet_r : Int32) (tg_harvest_r : Int32) (tg_draw_r : Int32) (h0 : fX5_market nw_people nw_fewest nw_kinds nw_loves ng_many ng_sets ng_chalk ng_wet ng_harvest ng_draw tr_people tr_fewest tr_kinds tr_loves tg_many tg_sets tg_chalk tg_wet tg_harvest tg_draw i1 = some (r, tr_people_r, tr_fewest_r, tr_kinds_r, tr_loves_r, tg_many_r, tg_sets_r, tg_chalk_r, tg_wet_r, tg_harvest_r, tg_draw_r)) : CI l yX5_market cX5_market 4 (some .int) 6 146 d cy [.ref xx0, .int i1] (List.flatten [wX cy xx0 nw0 ps0 kp0 kq0 tr0 tp0 hs0 xx_isKept, wT cy nw0 nw1 nw2 ng0 nw_people nw_fewest nw_kinds nw_loves, wG cy ng0 ng1 ng2 ng3 ng_many ng_sets ng_chalk ng_wet ng_harvest ng_draw, wT cy tr0 tr1 tr2 tg0 tr_people tr_fewest tr_kinds tr_loves, wG cy tg0 tg1 tg2 tg3 tg_many tg_sets tg_chalk tg_wet tg_harvest tg_draw]) (List.flatten [wX cy xx0 nw0 ps0 kp0 kq0 tr0 tp0 hs0 xx_isKept, wT cy nw0 nw1 nw2 ng0 nw_people nw_fewest nw_kinds nw_loves, wG cy ng0 ng1 ng2 ng3 ng_many ng_sets ng_chalk ng_wet ng_harvest ng_draw, wT cy tr0 tr1 tr2 tg0 tr_people_r tr_fewest_r tr_kinds_r tr_loves_r, wG cy tg0 tg1 tg2 tg3 tg_many_r tg_sets_r tg_chalk_r tg_wet_r tg_harvest_r tg_draw_r]) r := by
  refine CI.of (by decide) (Nat.le_of_ble_eq_true rfl) ?_
  intro p e s m args below meth c A ls Q F hret hw hl
  have hx := F.1
  have hb := F.2.1
  have hl : lv_has ls 4 [(0, .ref xx0), (1, .int i1)] := hl
  rw [fX5_market] at h0
  refine lv_iload_n hx hb dX5_market_0 rfl (lv_at hl 1 rfl) ?_
  obtain ⟨r1, k2, h81⟩ := ob1 h0
  clear h0
  refine g_si F (cX5_isFlag_ok l d cy i1 r1 k2) cal_X5_isFlag t_278 rfl ⟨by decide, by decide⟩ hw (w' := List.flatten [wX cy xx0 nw0 ps0 kp0 kq0 tr0 tp0 hs0 xx_isKept, wT cy nw0 nw1 nw2 ng0 nw_people nw_fewest nw_kinds nw_loves, wG cy ng0 ng1 ng2 ng3 ng_many ng_sets ng_chalk ng_wet ng_harvest ng_draw, wT cy tr0 tr1 tr2 tg0 tr_people tr_fewest tr_kinds tr_loves, wG cy tg0 tg1 tg2 tg3 tg_many tg_sets tg_chalk tg_wet tg_harvest tg_draw]) Cut.nil hl.1 (Nat.le_of_ble_eq_true rfl) rfl dX5_market_1 (fun H locs hw => ?_)
  refine lv_if_ne (tgt := 9) hx hb dX5_market_4 (by decide) (fun c3 => ?_) (fun c3 => ?_)
  · rw [if_neg c3] at h81
    refine lv_aload_n hx hb dX5_market_9 rfl (lv_at hl 0 rfl) ?_
    refine g_get F inG5 hw 0 rfl rfl 5 (by decide) t_190 (fun _ h9 => h9) rfl dX5_market_10 ?_
    refine lv_aload_n hx hb dX5_market_13 rfl (lv_at hl 0 rfl) ?_
    refine g_get F inG5 hw 0 rfl rfl 0 (by decide) t_185 (fun _ h9 => h9) rfl dX5_market_14 ?_
    obtain ⟨x4, x5, f6, f7, f8, f9, f10, x11, x12, x13, k14, h82⟩ := ob10 h81
    clear h81
    refine g_vv F (cX4_copyTown_ok l d cy tr0 tr1 tr2 tg0 tg1 tg2 tg3 nw0 nw1 nw2 ng0 ng1 ng2 ng3 tr_people tr_fewest tr_kinds tr_loves tg_many tg_sets tg_chalk tg_wet tg_harvest tg_draw nw_people nw_fewest nw_kinds nw_loves ng_many ng_sets ng_chalk ng_wet ng_harvest ng_draw x4 x5 f6 f7 f8 f9 f10 x11 x12 x13 k14) cal_X4_copyTown t_305 rfl ⟨by decide, by decide⟩ hw (w' := List.flatten [wX cy xx0 nw0 ps0 kp0 kq0 tr0 tp0 hs0 xx_isKept, wT cy nw0 nw1 nw2 ng0 nw_people nw_fewest nw_kinds nw_loves, wG cy ng0 ng1 ng2 ng3 ng_many ng_sets ng_chalk ng_wet ng_harvest ng_draw, wT cy tr0 tr1 tr2 tg0 x4 x5 f6 f7, wG cy tg0 tg1 tg2 tg3 f8 f9 f10 x11 x12 x13]) (SCut.cut (SCut.ord [_, _, _, _] [_, _, _, _] [2, 3, 0, 1] (show List.Perm [2, 3, 0, 1] (List.range 4) by decide) rfl (SCut.skip (SCut.take SCut.rf (SCut.take SCut.rf (SCut.take SCut.rf (SCut.take SCut.rf SCut.none))))))) 0 4 rfl rfl hl.1 (Nat.le_of_ble_eq_true rfl) rfl dX5_market_17 (fun H locs hw => ?_)
    refine lv_iconst (v := 0) hx hb dX5_market_20 (by decide) ?_
    refine lv_istore_n (lv' := [(2, .int 0), (0, .ref xx0), (1, .int i1)]) hx hb dX5_market_21 rfl hl (by decide) rfl (fun ls hl => ?_)
    refine lv_aload_n hx hb dX5_market_22 rfl (lv_at hl 1 rfl) ?_
    refine g_get F inG5 hw 0 rfl rfl 5 (by decide) t_190 (fun _ h9 => h9) rfl dX5_market_23 ?_
    obtain ⟨r15, f16, f17, k18, h83⟩ := ob3 h82
    clear h82
    refine g_vi F (cX4_bestSale_ok l d cy tr0 tr1 tr2 tg0 tg1 tg2 tg3 x4 x5 f6 f7 f8 f9 f10 x11 x12 x13 r15 f16 f17 k18) cal_X4_bestSale t_575 rfl ⟨by decide, by decide⟩ hw (w' := List.flatten [wX cy xx0 nw0 ps0 kp0 kq0 tr0 tp0 hs0 xx_isKept, wT cy nw0 nw1 nw2 ng0 nw_people nw_fewest nw_kinds nw_loves, wG cy ng0 ng1 ng2 ng3 ng_many ng_sets ng_chalk ng_wet ng_harvest ng_draw, wT cy tr0 tr1 tr2 tg0 x4 x5 f6 f7, wG cy tg0 tg1 tg2 tg3 f16 f17 f10 x11 x12 x13]) (SCut.cut (SCut.skip (SCut.skip (SCut.skip (SCut.take SCut.rf (SCut.take SCut.rf SCut.none)))))) 0 4 rfl rfl hl.1 (Nat.le_of_ble_eq_true rfl) rfl dX5_market_26 (fun H locs hw => ?_)
    refine lv_istore_n (lv' := [(3, .int r15), (2, .int 0), (0, .ref xx0), (1, .int i1)]) hx hb dX5_market_29 rfl hl (by decide) rfl (fun ls hl => ?_)
    obtain ⟨q60, q61, o62, h84, h85⟩ := ob3 h83
    clear h83
    have kont57 : ∀ (H : Heap) (locs : List Loc) (ls : Array Slot), Wd d A s.heap (List.flatten [wX cy xx0 nw0 ps0 kp0 kq0 tr0 tp0 hs0 xx_isKept, wT cy nw0 nw1 nw2 ng0 nw_people nw_fewest nw_kinds nw_loves, wG cy ng0 ng1 ng2 ng3 ng_many ng_sets ng_chalk ng_wet ng_harvest ng_draw, wT cy tr0 tr1 tr2 tg0 x4 x5 f6 f7, wG cy tg0 tg1 tg2 tg3 q60 q61 f10 x11 x12 x13]) H locs → lv_has ls 4 [(0, .ref xx0), (1, .int i1), (2, .int o62)] → W p l e (rmo 6 146) s m args below meth c H locs 0 0 Q (F0 m 78 ls []) := by
      intro H locs ls hw hl
      clear h84
      refine lv_iload_n hx hb dX5_market_78 rfl (lv_at hl 1 rfl) ?_
      refine lv_if_ne (tgt := 86) hx hb dX5_market_79 (by decide) (fun c78 => ?_) (fun c78 => ?_)
      · rw [if_neg c78] at h85
        refine lv_aload_n hx hb dX5_market_86 rfl (lv_at hl 0 rfl) ?_
        refine g_get F inG5 hw 0 rfl rfl 5 (by decide) t_190 (fun _ h9 => h9) rfl dX5_market_87 ?_
        obtain ⟨r79, k80, h86⟩ := ob1 h85
        clear h85
        refine g_vi F (cX4_worthOfAll_ok l d cy tr0 tr1 tr2 tg0 tg1 tg2 tg3 x4 x5 f6 f7 q60 q61 f10 x11 x12 x13 r79 k80) cal_X4_worthOfAll t_459 rfl ⟨by decide, by decide⟩ hw (w' := List.flatten [wX cy xx0 nw0 ps0 kp0 kq0 tr0 tp0 hs0 xx_isKept, wT cy nw0 nw1 nw2 ng0 nw_people nw_fewest nw_kinds nw_loves, wG cy ng0 ng1 ng2 ng3 ng_many ng_sets ng_chalk ng_wet ng_harvest ng_draw, wT cy tr0 tr1 tr2 tg0 x4 x5 f6 f7, wG cy tg0 tg1 tg2 tg3 q60 q61 f10 x11 x12 x13]) (SCut.cut (SCut.skip (SCut.skip (SCut.skip (SCut.take SCut.rf (SCut.take SCut.rf SCut.none)))))) 0 4 rfl rfl hl.1 (Nat.le_of_ble_eq_true rfl) rfl dX5_market_90 (fun H locs hw => ?_)
        obtain ⟨rfl, rfl, rfl, rfl, rfl, rfl, rfl, rfl, rfl, rfl, rfl⟩ := inj11 h86
        exact hret _ _ _ _ hw dX5_market_93
      · rw [if_pos c78] at h85
        refine lv_iload_n hx hb dX5_market_82 rfl (lv_at hl 2 rfl) ?_
        refine lv_goto (tgt := 93) hx hb dX5_market_83 (by decide) ?_
        obtain ⟨rfl, rfl, rfl, rfl, rfl, rfl, rfl, rfl, rfl, rfl, rfl⟩ := inj11 h85
        exact hret _ _ _ _ hw dX5_market_93
    clear h85
    have loop59 : ∀ (n : Nat) (v53 : Int32) (v54 : Int32) (g55 : Nat → Int32) (g56 : Nat → Int32) (H : Heap) (locs : List Loc) (ls : Array Slot), Wd d A s.heap (List.flatten [wX cy xx0 nw0 ps0 kp0 kq0 tr0 tp0 hs0 xx_isKept, wT cy nw0 nw1 nw2 ng0 nw_people nw_fewest nw_kinds nw_loves, wG cy ng0 ng1 ng2 ng3 ng_many ng_sets ng_chalk ng_wet ng_harvest ng_draw, wT cy tr0 tr1 tr2 tg0 x4 x5 f6 f7, wG cy tg0 tg1 tg2 tg3 g55 g56 f10 x11 x12 x13]) H locs → lv_has ls 4 [(0, .ref xx0), (1, .int i1), (2, .int v53), (3, .int v54)] → fX5_market_L30 x4 x5 f6 f7 f10 x11 x12 n v53 v54 g55 g56 = some (q60, q61, o62) → W p l e (rmo 6 146) s m args below meth c H locs 0 0 Q (F0 m 30 ls []) := by
      intro n
      induction n with
      | zero =>
        intro v53 v54 g55 g56 H locs ls hw hl h87
        rw [fX5_market_L30] at h87
        cases h87
      | succ n ih58 =>
        intro v53 v54 g55 g56 H locs ls hw hl h88
        rw [fX5_market_L30] at h88
        refine lv_iload_n hx hb dX5_market_30 rfl (lv_at hl 3 rfl) ?_
        refine lv_bipush (v := (-4)) hx hb dX5_market_31 (by decide) ?_
        refine lv_icmp_eq (tgt := 78) hx hb dX5_market_33 (by decide) (fun c63 => ?_) (fun c63 => ?_)
        · rw [if_pos c63] at h88
          obtain ⟨rfl, rfl, rfl⟩ := inj3 h88
          exact kont57 _ _ _ hw (lv_sub hl [0, 1, 2] rfl)
        · rw [if_neg c63] at h88
          refine lv_iload_n hx hb dX5_market_36 rfl (lv_at hl 2 rfl) ?_
          refine lv_ldc (v := 100000) hx hb F.2.2.2.2.2.1 (F.2.2.2.2.2.2.1 _ t_601) dX5_market_37 ?_
          refine lv_icmp_ge (tgt := 78) hx hb dX5_market_39 (by decide) (fun c64 => ?_) (fun c64 => ?_)
          · rw [if_pos c64] at h88
            obtain ⟨rfl, rfl, rfl⟩ := inj3 h88
            exact kont57 _ _ _ hw (lv_sub hl [0, 1, 2] rfl)
          · rw [if_neg c64] at h88
            refine lv_aload_n hx hb dX5_market_42 rfl (lv_at hl 0 rfl) ?_
            refine g_get F inG5 hw 0 rfl rfl 5 (by decide) t_190 (fun _ h9 => h9) rfl dX5_market_43 ?_
            refine g_get F inG4 hw 8 rfl rfl 4 (by decide) t_116 (fun _ h9 => h9) rfl dX5_market_46 ?_
            refine lv_iload_n hx hb dX5_market_49 rfl (lv_at hl 3 rfl) ?_
            obtain ⟨r65, k66, h89⟩ := ob1 h88
            clear h88
            refine g_si F (cX5_sellerOf_ok l d cy v54 r65 k66) cal_X5_sellerOf t_588 rfl ⟨by decide, by decide⟩ hw (w' := List.flatten [wX cy xx0 nw0 ps0 kp0 kq0 tr0 tp0 hs0 xx_isKept, wT cy nw0 nw1 nw2 ng0 nw_people nw_fewest nw_kinds nw_loves, wG cy ng0 ng1 ng2 ng3 ng_many ng_sets ng_chalk ng_wet ng_harvest ng_draw, wT cy tr0 tr1 tr2 tg0 x4 x5 f6 f7, wG cy tg0 tg1 tg2 tg3 g55 g56 f10 x11 x12 x13]) Cut.nil hl.1 (Nat.le_of_ble_eq_true rfl) rfl dX5_market_50 (fun H locs hw => ?_)
            refine lv_iload_n hx hb dX5_market_53 rfl (lv_at hl 3 rfl) ?_
            obtain ⟨r67, k68, h90⟩ := ob1 h89
            clear h89
            refine g_si F (cX5_buyerOf_ok l d cy v54 r67 k68) cal_X5_buyerOf t_591 rfl ⟨by decide, by decide⟩ hw (w' := List.flatten [wX cy xx0 nw0 ps0 kp0 kq0 tr0 tp0 hs0 xx_isKept, wT cy nw0 nw1 nw2 ng0 nw_people nw_fewest nw_kinds nw_loves, wG cy ng0 ng1 ng2 ng3 ng_many ng_sets ng_chalk ng_wet ng_harvest ng_draw, wT cy tr0 tr1 tr2 tg0 x4 x5 f6 f7, wG cy tg0 tg1 tg2 tg3 g55 g56 f10 x11 x12 x13]) Cut.nil hl.1 (Nat.le_of_ble_eq_true rfl) rfl dX5_market_54 (fun H locs hw => ?_)
            refine lv_iload_n hx hb dX5_market_57 rfl (lv_at hl 3 rfl) ?_
            obtain ⟨r69, k70, h91⟩ := ob1 h90
            clear h90
            refine g_si F (cX5_halfOf_ok l d cy v54 r69 k70) cal_X5_halfOf t_594 rfl ⟨by decide, by decide⟩ hw (w' := List.flatten [wX cy xx0 nw0 ps0 kp0 kq0 tr0 tp0 hs0 xx_isKept, wT cy nw0 nw1 nw2 ng0 nw_people nw_fewest nw_kinds nw_loves, wG cy ng0 ng1 ng2 ng3 ng_many ng_sets ng_chalk ng_wet ng_harvest ng_draw, wT cy tr0 tr1 tr2 tg0 x4 x5 f6 f7, wG cy tg0 tg1 tg2 tg3 g55 g56 f10 x11 x12 x13]) Cut.nil hl.1 (Nat.le_of_ble_eq_true rfl) rfl dX5_market_58 (fun H locs hw => ?_)
            obtain ⟨f71, f72, k73, h92⟩ := ob2 h91
            clear h91
            refine g_vv F (cX0_move_ok l d cy tg0 tg1 tg2 tg3 g55 g56 f10 x11 x12 x13 r65 r67 r69 f71 f72 k73) cal_X0_move t_497 rfl ⟨by decide, by decide⟩ hw (w' := List.flatten [wX cy xx0 nw0 ps0 kp0 kq0 tr0 tp0 hs0 xx_isKept, wT cy nw0 nw1 nw2 ng0 nw_people nw_fewest nw_kinds nw_loves, wG cy ng0 ng1 ng2 ng3 ng_many ng_sets ng_chalk ng_wet ng_harvest ng_draw, wT cy tr0 tr1 tr2 tg0 x4 x5 f6 f7, wG cy tg0 tg1 tg2 tg3 f71 f72 f10 x11 x12 x13]) (SCut.cut (SCut.one (SCut.skip (SCut.skip (SCut.skip (SCut.skip (SCut.take SCut.rf SCut.none))))))) 0 0 rfl rfl hl.1 (Nat.le_of_ble_eq_true rfl) rfl dX5_market_61 (fun H locs hw => ?_)
            refine lv_iinc (v := (v53 + 1)) (lv' := [(2, .int (v53 + 1)), (0, .ref xx0), (1, .int i1), (3, .int v54)]) hx hb dX5_market_64 hl (k := 2) rfl rfl (by decide) rfl (fun ls hl => ?_)
            refine lv_aload_n hx hb dX5_market_67 rfl (lv_at hl 1 rfl) ?_
            refine g_get F inG5 hw 0 rfl rfl 5 (by decide) t_190 (fun _ h9 => h9) rfl dX5_market_68 ?_
            obtain ⟨r74, f75, f76, k77, h93⟩ := ob3 h92
            clear h92
            refine g_vi F (cX4_bestSale_ok l d cy tr0 tr1 tr2 tg0 tg1 tg2 tg3 x4 x5 f6 f7 f71 f72 f10 x11 x12 x13 r74 f75 f76 k77) cal_X4_bestSale t_575 rfl ⟨by decide, by decide⟩ hw (w' := List.flatten [wX cy xx0 nw0 ps0 kp0 kq0 tr0 tp0 hs0 xx_isKept, wT cy nw0 nw1 nw2 ng0 nw_people nw_fewest nw_kinds nw_loves, wG cy ng0 ng1 ng2 ng3 ng_many ng_sets ng_chalk ng_wet ng_harvest ng_draw, wT cy tr0 tr1 tr2 tg0 x4 x5 f6 f7, wG cy tg0 tg1 tg2 tg3 f75 f76 f10 x11 x12 x13]) (SCut.cut (SCut.skip (SCut.skip (SCut.skip (SCut.take SCut.rf (SCut.take SCut.rf SCut.none)))))) 0 4 rfl rfl hl.1 (Nat.le_of_ble_eq_true rfl) rfl dX5_market_71 (fun H locs hw => ?_)
            refine lv_istore_n (lv' := [(3, .int r74), (2, .int (v53 + 1)), (0, .ref xx0), (1, .int i1)]) hx hb dX5_market_74 rfl hl (by decide) rfl (fun ls hl => ?_)
            refine lv_goto (tgt := 30) hx hb dX5_market_75 (by decide) ?_
            exact ih58 (v53 + 1) r74 f75 f76 _ _ _ hw (lv_sub hl [2, 3, 1, 0] rfl) h93
    exact loop59 fl 0 r15 f16 f17 _ _ _ hw (lv_sub hl [2, 3, 1, 0] rfl) h84
  · rw [if_pos c3] at h81
    refine lv_iconst (v := (-1)) hx hb dX5_market_7 (by decide) ?_
    obtain ⟨rfl, rfl, rfl, rfl, rfl, rfl, rfl, rfl, rfl, rfl, rfl⟩ := inj11 h81
    exact hret _ _ _ _ hw dX5_market_8
theorem cal_X5_longest : CalV yX5_longest cX5_longest 8 (some .int) RX5 2 := ⟨t_605, t_603, t_604, t_37, by decide +kernel⟩
set_option maxHeartbeats 4000000 in
set_option maxRecDepth 100000 in
theorem cX5_longest_ok (l : Launch) (d : va_G) (cy : Nat → ClassId) (xx0 nw0 nw1 nw2 ng0 ng1 ng2 ng3 ps0 kp0 kq0 tr0 tp0 hs0 : Nat) (xx_isKept : Int32) (nw_people : Int32) (nw_fewest : Int32) (nw_kinds : Nat → Int32) (nw_loves : Nat → Int32) (ng_many : Nat → Int32) (ng_sets : Nat → Int32) (ng_chalk : Nat → Int32) (ng_wet : Int32) (ng_harvest : Int32) (ng_draw : Int32) (i1 : Int32) (i2 : Int32) (r : Int32) (h0 : fX5_longest nw_people ng_sets i1 i2 = some (r)) : CI l yX5_longest cX5_longest 8 (some .int) 2 43 d cy [.ref xx0, .int i1, .int i2] (List.flatten [wX cy xx0 nw0 ps0 kp0 kq0 tr0 tp0 hs0 xx_isKept, wT cy nw0 nw1 nw2 ng0 nw_people nw_fewest nw_kinds nw_loves, wG cy ng0 ng1 ng2 ng3 ng_many ng_sets ng_chalk ng_wet ng_harvest ng_draw]) (List.flatten [wX cy xx0 nw0 ps0 kp0 kq0 tr0 tp0 hs0 xx_isKept, wT cy nw0 nw1 nw2 ng0 nw_people nw_fewest nw_kinds nw_loves, wG cy ng0 ng1 ng2 ng3 ng_many ng_sets ng_chalk ng_wet ng_harvest ng_draw]) r := by
  refine CI.of (by decide) (Nat.le_of_ble_eq_true rfl) ?_
  intro p e s m args below meth c A ls Q F hret hw hl
  have hx := F.1
  have hb := F.2.1
  have hl : lv_has ls 8 [(0, .ref xx0), (1, .int i1), (2, .int i2)] := hl
  rw [fX5_longest] at h0
  refine lv_aload_n hx hb dX5_longest_0 rfl (lv_at hl 0 rfl) ?_
  refine g_get F inG5 hw 0 rfl rfl 0 (by decide) t_185 (fun _ h9 => h9) rfl dX5_longest_1 ?_
  refine lv_iload_n hx hb dX5_longest_4 rfl (lv_at hl 1 rfl) ?_
  obtain ⟨r1, k2, h45⟩ := ob1 h0
  clear h0
  refine g_vi F (cX4_isOne_ok l d cy nw0 nw1 nw2 ng0 ng1 ng2 ng3 nw_people nw_fewest nw_kinds nw_loves ng_many ng_sets ng_chalk ng_wet ng_harvest ng_draw i1 r1 k2) cal_X4_isOne t_233 rfl ⟨by decide, by decide⟩ hw (w' := List.flatten [wX cy xx0 nw0 ps0 kp0 kq0 tr0 tp0 hs0 xx_isKept, wT cy nw0 nw1 nw2 ng0 nw_people nw_fewest nw_kinds nw_loves, wG cy ng0 ng1 ng2 ng3 ng_many ng_sets ng_chalk ng_wet ng_harvest ng_draw]) (SCut.cut (SCut.skip (SCut.take SCut.rf (SCut.take SCut.rf SCut.none)))) 0 4 rfl rfl hl.1 (Nat.le_of_ble_eq_true rfl) rfl dX5_longest_5 (fun H locs hw => ?_)
  refine lv_if_eq (tgt := 18) hx hb dX5_longest_8 (by decide) (fun c3 => ?_) (fun c3 => ?_)
  · rw [if_pos c3] at h45
    refine lv_iconst (v := (-1)) hx hb dX5_longest_18 (by decide) ?_
    obtain rfl := inj1 h45
    exact hret _ _ _ _ hw dX5_longest_19
  · rw [if_neg c3] at h45
    refine lv_iload_n hx hb dX5_longest_11 rfl (lv_at hl 2 rfl) ?_
    obtain ⟨r4, k5, h46⟩ := ob1 h45
    clear h45
    refine g_si F (cX5_isFlag_ok l d cy i2 r4 k5) cal_X5_isFlag t_278 rfl ⟨by decide, by decide⟩ hw (w' := List.flatten [wX cy xx0 nw0 ps0 kp0 kq0 tr0 tp0 hs0 xx_isKept, wT cy nw0 nw1 nw2 ng0 nw_people nw_fewest nw_kinds nw_loves, wG cy ng0 ng1 ng2 ng3 ng_many ng_sets ng_chalk ng_wet ng_harvest ng_draw]) Cut.nil hl.1 (Nat.le_of_ble_eq_true rfl) rfl dX5_longest_12 (fun H locs hw => ?_)
    refine lv_if_ne (tgt := 20) hx hb dX5_longest_15 (by decide) (fun c6 => ?_) (fun c6 => ?_)
    · rw [if_neg c6] at h46
      refine lv_aload_n hx hb dX5_longest_20 rfl (lv_at hl 0 rfl) ?_
      refine g_get F inG5 hw 0 rfl rfl 0 (by decide) t_185 (fun _ h9 => h9) rfl dX5_longest_21 ?_
      refine g_get F inG4 hw 1 rfl rfl 4 (by decide) t_116 (fun _ h9 => h9) rfl dX5_longest_24 ?_
      refine g_get F inG0 hw 4 rfl rfl 1 (by decide) t_74 (fun _ h9 => h9) rfl dX5_longest_27 ?_
      refine lv_iload_n hx hb dX5_longest_30 rfl (lv_at hl 1 rfl) ?_
      obtain ⟨j7, k8, h47⟩ := ob1 h46
      clear h46
      refine g_iald F hw 6 rfl k8 dX5_longest_31 ?_
      refine lv_istore_n (lv' := [(3, .int (ng_sets j7)), (0, .ref xx0), (1, .int i1), (2, .int i2)]) hx hb dX5_longest_32 rfl hl (by decide) rfl (fun ls hl => ?_)
      refine lv_iconst (v := 0) hx hb dX5_longest_33 (by decide) ?_
      refine lv_istore (lv' := [(4, .int 0), (3, .int (ng_sets j7)), (0, .ref xx0), (1, .int i1), (2, .int i2)]) hx hb dX5_longest_34 hl (by decide) rfl (fun ls hl => ?_)
      refine lv_bipush (v := (-4)) hx hb dX5_longest_36 (by decide) ?_
      refine lv_istore (lv' := [(5, .int (-4)), (4, .int 0), (3, .int (ng_sets j7)), (0, .ref xx0), (1, .int i1), (2, .int i2)]) hx hb dX5_longest_38 hl (by decide) rfl (fun ls hl => ?_)
      refine lv_iconst (v := 0) hx hb dX5_longest_40 (by decide) ?_
      refine lv_istore (lv' := [(6, .int 0), (5, .int (-4)), (4, .int 0), (3, .int (ng_sets j7)), (0, .ref xx0), (1, .int i1), (2, .int i2)]) hx hb dX5_longest_41 hl (by decide) rfl (fun ls hl => ?_)
      obtain ⟨o34, o35, h48, h49⟩ := ob2 h47
      clear h47
      have kont31 : ∀ (H : Heap) (locs : List Loc) (ls : Array Slot), Wd d A s.heap (List.flatten [wX cy xx0 nw0 ps0 kp0 kq0 tr0 tp0 hs0 xx_isKept, wT cy nw0 nw1 nw2 ng0 nw_people nw_fewest nw_kinds nw_loves, wG cy ng0 ng1 ng2 ng3 ng_many ng_sets ng_chalk ng_wet ng_harvest ng_draw]) H locs → lv_has ls 8 [(2, .int i2), (4, .int o34), (5, .int o35)] → W p l e (rmo 2 43) s m args below meth c H locs 0 0 Q (F0 m 79 ls []) := by
        intro H locs ls hw hl
        clear h48
        refine lv_iload_n hx hb dX5_longest_79 rfl (lv_at hl 0 rfl) ?_
        refine lv_if_ne (tgt := 88) hx hb dX5_longest_80 (by decide) (fun c44 => ?_) (fun c44 => ?_)
        · rw [if_neg c44] at h49
          refine lv_iload hx hb dX5_longest_88 (lv_at hl 2 rfl) ?_
          obtain rfl := inj1 h49
          exact hret _ _ _ _ hw dX5_longest_90
        · rw [if_pos c44] at h49
          refine lv_iload hx hb dX5_longest_83 (lv_at hl 1 rfl) ?_
          refine lv_goto (tgt := 90) hx hb dX5_longest_85 (by decide) ?_
          obtain rfl := inj1 h49
          exact hret _ _ _ _ hw dX5_longest_90
      clear h49
      have loop33 : ∀ (n : Nat) (v28 : Int32) (v29 : Int32) (v30 : Int32) (H : Heap) (locs : List Loc) (ls : Array Slot), Wd d A s.heap (List.flatten [wX cy xx0 nw0 ps0 kp0 kq0 tr0 tp0 hs0 xx_isKept, wT cy nw0 nw1 nw2 ng0 nw_people nw_fewest nw_kinds nw_loves, wG cy ng0 ng1 ng2 ng3 ng_many ng_sets ng_chalk ng_wet ng_harvest ng_draw]) H locs → lv_has ls 8 [(2, .int i2), (3, .int (ng_sets j7)), (4, .int v28), (5, .int v29), (6, .int v30)] → fX5_longest_L43 ng_sets j7 n v28 v29 v30 = some (o34, o35) → W p l e (rmo 2 43) s m args below meth c H locs 0 0 Q (F0 m 43 ls []) := by
        intro n
        induction n with
        | zero =>
          intro v28 v29 v30 H locs ls hw hl h50
          rw [fX5_longest_L43] at h50
          cases h50
        | succ n ih32 =>
          intro v28 v29 v30 H locs ls hw hl h51
          rw [fX5_longest_L43] at h51
          refine lv_iload hx hb dX5_longest_43 (lv_at hl 4 rfl) ?_
          refine lv_bipush (v := 12) hx hb dX5_longest_45 (by decide) ?_
          refine lv_icmp_ge (tgt := 79) hx hb dX5_longest_47 (by decide) (fun c36 => ?_) (fun c36 => ?_)
          · rw [if_pos c36] at h51
            obtain ⟨rfl, rfl⟩ := inj2 h51
            exact kont31 _ _ _ hw (lv_sub hl [0, 2, 3] rfl)
          · rw [if_neg c36] at h51
            refine lv_iload_n hx hb dX5_longest_50 rfl (lv_at hl 1 rfl) ?_
            refine lv_iload hx hb dX5_longest_51 (lv_at hl 4 rfl) ?_
            obtain ⟨r37, k38, h52⟩ := ob1 h51
            clear h51
            refine g_si F (cX5_lengthFrom_ok l d cy (ng_sets j7) v30 r37 k38) cal_X5_lengthFrom t_606 rfl ⟨by decide, by decide⟩ hw (w' := List.flatten [wX cy xx0 nw0 ps0 kp0 kq0 tr0 tp0 hs0 xx_isKept, wT cy nw0 nw1 nw2 ng0 nw_people nw_fewest nw_kinds nw_loves, wG cy ng0 ng1 ng2 ng3 ng_many ng_sets ng_chalk ng_wet ng_harvest ng_draw]) Cut.nil hl.1 (Nat.le_of_ble_eq_true rfl) rfl dX5_longest_53 (fun H locs hw => ?_)
            refine lv_istore (lv' := [(7, .int r37), (2, .int i2), (3, .int (ng_sets j7)), (4, .int v28), (5, .int v29), (6, .int v30)]) hx hb dX5_longest_56 hl (by decide) rfl (fun ls hl => ?_)
            refine lv_iload hx hb dX5_longest_58 (lv_at hl 0 rfl) ?_
            refine lv_iload hx hb dX5_longest_60 (lv_at hl 3 rfl) ?_
            obtain ⟨x40, x41, h53, h54⟩ := ob2 h52
            clear h52
            have kont42 : ∀ (H : Heap) (locs : List Loc) (ls : Array Slot), Wd d A s.heap (List.flatten [wX cy xx0 nw0 ps0 kp0 kq0 tr0 tp0 hs0 xx_isKept, wT cy nw0 nw1 nw2 ng0 nw_people nw_fewest nw_kinds nw_loves, wG cy ng0 ng1 ng2 ng3 ng_many ng_sets ng_chalk ng_wet ng_harvest ng_draw]) H locs → lv_has ls 8 [(2, .int i2), (3, .int (ng_sets j7)), (4, .int x40), (5, .int x41), (6, .int v30)] → W p l e (rmo 2 43) s m args below meth c H locs 0 0 Q (F0 m 73 ls []) := by
              intro H locs ls hw hl
              clear h53
              refine lv_iinc (v := (v30 + 1)) (lv' := [(6, .int (v30 + 1)), (2, .int i2), (3, .int (ng_sets j7)), (4, .int x40), (5, .int x41)]) hx hb dX5_longest_73 hl (k := 4) rfl rfl (by decide) rfl (fun ls hl => ?_)
              refine lv_goto (tgt := 43) hx hb dX5_longest_76 (by decide) ?_
              exact ih32 x40 x41 (v30 + 1) _ _ _ hw (lv_sub hl [1, 2, 3, 4, 0] rfl) h54
            clear h54
            refine lv_icmp_le (tgt := 73) hx hb dX5_longest_62 (by decide) (fun c43 => ?_) (fun c43 => ?_)
            · rw [if_pos c43] at h53
              obtain ⟨rfl, rfl⟩ := inj2 h53
              exact kont42 _ _ _ hw (lv_sub hl [1, 2, 3, 4, 5] rfl)
            · rw [if_neg c43] at h53
              refine lv_iload hx hb dX5_longest_65 (lv_at hl 0 rfl) ?_
              refine lv_istore (lv' := [(4, .int r37), (7, .int r37), (2, .int i2), (3, .int (ng_sets j7)), (5, .int v29), (6, .int v30)]) hx hb dX5_longest_67 hl (by decide) rfl (fun ls hl => ?_)
              refine lv_iload hx hb dX5_longest_69 (lv_at hl 5 rfl) ?_
              refine lv_istore (lv' := [(5, .int v30), (4, .int r37), (7, .int r37), (2, .int i2), (3, .int (ng_sets j7)), (6, .int v30)]) hx hb dX5_longest_71 hl (by decide) rfl (fun ls hl => ?_)
              obtain ⟨rfl, rfl⟩ := inj2 h53
              exact kont42 _ _ _ hw (lv_sub hl [3, 4, 1, 0, 5] rfl)
      exact loop33 fl 0 (-4) 0 _ _ _ hw (lv_sub hl [6, 3, 2, 1, 0] rfl) h48
    · rw [if_pos c6] at h46
      refine lv_iconst (v := (-1)) hx hb dX5_longest_18 (by decide) ?_
      obtain rfl := inj1 h46
      exact hret _ _ _ _ hw dX5_longest_19
theorem cal_X5_stretch : CalV yX5_stretch cX5_stretch 10 (some .int) RX5 3 := ⟨t_612, t_610, t_611, t_37, by decide +kernel⟩
set_option maxHeartbeats 4000000 in
set_option maxRecDepth 100000 in
theorem cX5_stretch_ok (l : Launch) (d : va_G) (cy : Nat → ClassId) (xx0 nw0 nw1 nw2 ng0 ng1 ng2 ng3 ps0 kp0 kq0 tr0 tp0 hs0 : Nat) (xx_isKept : Int32) (nw_people : Int32) (nw_fewest : Int32) (nw_kinds : Nat → Int32) (nw_loves : Nat → Int32) (ng_many : Nat → Int32) (ng_sets : Nat → Int32) (ng_chalk : Nat → Int32) (ng_wet : Int32) (ng_harvest : Int32) (ng_draw : Int32) (i1 : Int32) (i2 : Int32) (i3 : Int32) (r : Int32) (h0 : fX5_stretch nw_people ng_sets i1 i2 i3 = some (r)) : CI l yX5_stretch cX5_stretch 10 (some .int) 1 22 d cy [.ref xx0, .int i1, .int i2, .int i3] (List.flatten [wX cy xx0 nw0 ps0 kp0 kq0 tr0 tp0 hs0 xx_isKept, wT cy nw0 nw1 nw2 ng0 nw_people nw_fewest nw_kinds nw_loves, wG cy ng0 ng1 ng2 ng3 ng_many ng_sets ng_chalk ng_wet ng_harvest ng_draw]) (List.flatten [wX cy xx0 nw0 ps0 kp0 kq0 tr0 tp0 hs0 xx_isKept, wT cy nw0 nw1 nw2 ng0 nw_people nw_fewest nw_kinds nw_loves, wG cy ng0 ng1 ng2 ng3 ng_many ng_sets ng_chalk ng_wet ng_harvest ng_draw]) r := by
  refine CI.of (by decide) (Nat.le_of_ble_eq_true rfl) ?_
  intro p e s m args below meth c A ls Q F hret hw hl
  have hx := F.1
  have hb := F.2.1
  have hl : lv_has ls 10 [(0, .ref xx0), (1, .int i1), (2, .int i2), (3, .int i3)] := hl
  rw [fX5_stretch] at h0
  refine lv_aload_n hx hb dX5_stretch_0 rfl (lv_at hl 0 rfl) ?_
  refine g_get F inG5 hw 0 rfl rfl 0 (by decide) t_185 (fun _ h9 => h9) rfl dX5_stretch_1 ?_
  refine lv_iload_n hx hb dX5_stretch_4 rfl (lv_at hl 1 rfl) ?_
  obtain ⟨r1, k2, h57⟩ := ob1 h0
  clear h0
  refine g_vi F (cX4_isOne_ok l d cy nw0 nw1 nw2 ng0 ng1 ng2 ng3 nw_people nw_fewest nw_kinds nw_loves ng_many ng_sets ng_chalk ng_wet ng_harvest ng_draw i1 r1 k2) cal_X4_isOne t_233 rfl ⟨by decide, by decide⟩ hw (w' := List.flatten [wX cy xx0 nw0 ps0 kp0 kq0 tr0 tp0 hs0 xx_isKept, wT cy nw0 nw1 nw2 ng0 nw_people nw_fewest nw_kinds nw_loves, wG cy ng0 ng1 ng2 ng3 ng_many ng_sets ng_chalk ng_wet ng_harvest ng_draw]) (SCut.cut (SCut.skip (SCut.take SCut.rf (SCut.take SCut.rf SCut.none)))) 0 4 rfl rfl hl.1 (Nat.le_of_ble_eq_true rfl) rfl dX5_stretch_5 (fun H locs hw => ?_)
  refine lv_if_eq (tgt := 28) hx hb dX5_stretch_8 (by decide) (fun c3 => ?_) (fun c3 => ?_)
  · rw [if_pos c3] at h57
    refine lv_iconst (v := (-1)) hx hb dX5_stretch_28 (by decide) ?_
    obtain rfl := inj1 h57
    exact hret _ _ _ _ hw dX5_stretch_29
  · rw [if_neg c3] at h57
    refine lv_iload_n hx hb dX5_stretch_11 rfl (lv_at hl 2 rfl) ?_
    refine lv_iconst (v := 1) hx hb dX5_stretch_12 (by decide) ?_
    refine lv_bipush (v := 12) hx hb dX5_stretch_13 (by decide) ?_
    obtain ⟨r4, k5, h58⟩ := ob1 h57
    clear h57
    refine g_si F (cX5_isWithin_ok l d cy i2 1 12 r4 k5) cal_X5_isWithin t_214 rfl ⟨by decide, by decide⟩ hw (w' := List.flatten [wX cy xx0 nw0 ps0 kp0 kq0 tr0 tp0 hs0 xx_isKept, wT cy nw0 nw1 nw2 ng0 nw_people nw_fewest nw_kinds nw_loves, wG cy ng0 ng1 ng2 ng3 ng_many ng_sets ng_chalk ng_wet ng_harvest ng_draw]) Cut.nil hl.1 (Nat.le_of_ble_eq_true rfl) rfl dX5_stretch_15 (fun H locs hw => ?_)
    refine lv_if_eq (tgt := 28) hx hb dX5_stretch_18 (by decide) (fun c6 => ?_) (fun c6 => ?_)
    · rw [if_pos c6] at h58
      refine lv_iconst (v := (-1)) hx hb dX5_stretch_28 (by decide) ?_
      obtain rfl := inj1 h58
      exact hret _ _ _ _ hw dX5_stretch_29
    · rw [if_neg c6] at h58
      refine lv_iload_n hx hb dX5_stretch_21 rfl (lv_at hl 3 rfl) ?_
      obtain ⟨r7, k8, h59⟩ := ob1 h58
      clear h58
      refine g_si F (cX5_isFlag_ok l d cy i3 r7 k8) cal_X5_isFlag t_278 rfl ⟨by decide, by decide⟩ hw (w' := List.flatten [wX cy xx0 nw0 ps0 kp0 kq0 tr0 tp0 hs0 xx_isKept, wT cy nw0 nw1 nw2 ng0 nw_people nw_fewest nw_kinds nw_loves, wG cy ng0 ng1 ng2 ng3 ng_many ng_sets ng_chalk ng_wet ng_harvest ng_draw]) Cut.nil hl.1 (Nat.le_of_ble_eq_true rfl) rfl dX5_stretch_22 (fun H locs hw => ?_)
      refine lv_if_ne (tgt := 30) hx hb dX5_stretch_25 (by decide) (fun c9 => ?_) (fun c9 => ?_)
      · rw [if_neg c9] at h59
        refine lv_sipush (v := 4095) hx hb dX5_stretch_30 (by decide) ?_
        refine lv_aload_n hx hb dX5_stretch_33 rfl (lv_at hl 0 rfl) ?_
        refine g_get F inG5 hw 0 rfl rfl 0 (by decide) t_185 (fun _ h9 => h9) rfl dX5_stretch_34 ?_
        refine g_get F inG4 hw 1 rfl rfl 4 (by decide) t_116 (fun _ h9 => h9) rfl dX5_stretch_37 ?_
        refine g_get F inG0 hw 4 rfl rfl 1 (by decide) t_74 (fun _ h9 => h9) rfl dX5_stretch_40 ?_
        refine lv_iload_n hx hb dX5_stretch_43 rfl (lv_at hl 1 rfl) ?_
        obtain ⟨j10, k11, h60⟩ := ob1 h59
        clear h59
        refine g_iald F hw 6 rfl k11 dX5_stretch_44 ?_
        refine lv_iconst (v := (-1)) hx hb dX5_stretch_45 (by decide) ?_
        refine lv_ixor hx hb dX5_stretch_46 ?_
        refine lv_iand hx hb dX5_stretch_47 ?_
        refine lv_istore (lv' := [(4, .int (4095 &&& ((ng_sets j10) ^^^ (-1)))), (0, .ref xx0), (1, .int i1), (2, .int i2), (3, .int i3)]) hx hb dX5_stretch_48 hl (by decide) rfl (fun ls hl => ?_)
        refine lv_iconst (v := 1) hx hb dX5_stretch_50 (by decide) ?_
        refine lv_iload_n hx hb dX5_stretch_51 rfl (lv_at hl 3 rfl) ?_
        refine lv_ishl hx hb dX5_stretch_52 ?_
        refine lv_iconst (v := 1) hx hb dX5_stretch_53 (by decide) ?_
        refine lv_isub hx hb dX5_stretch_54 ?_
        refine lv_istore (lv' := [(5, .int (((1 : Int32) <<< (i2 &&& 31)) - 1)), (4, .int (4095 &&& ((ng_sets j10) ^^^ (-1)))), (0, .ref xx0), (1, .int i1), (2, .int i2), (3, .int i3)]) hx hb dX5_stretch_55 hl (by decide) rfl (fun ls hl => ?_)
        refine lv_bipush (v := 13) hx hb dX5_stretch_57 (by decide) ?_
        refine lv_istore (lv' := [(6, .int 13), (5, .int (((1 : Int32) <<< (i2 &&& 31)) - 1)), (4, .int (4095 &&& ((ng_sets j10) ^^^ (-1)))), (0, .ref xx0), (1, .int i1), (2, .int i2), (3, .int i3)]) hx hb dX5_stretch_59 hl (by decide) rfl (fun ls hl => ?_)
        refine lv_iconst (v := 0) hx hb dX5_stretch_61 (by decide) ?_
        refine lv_istore (lv' := [(7, .int 0), (6, .int 13), (5, .int (((1 : Int32) <<< (i2 &&& 31)) - 1)), (4, .int (4095 &&& ((ng_sets j10) ^^^ (-1)))), (0, .ref xx0), (1, .int i1), (2, .int i2), (3, .int i3)]) hx hb dX5_stretch_62 hl (by decide) rfl (fun ls hl => ?_)
        refine lv_iconst (v := 0) hx hb dX5_stretch_64 (by decide) ?_
        refine lv_istore (lv' := [(8, .int 0), (7, .int 0), (6, .int 13), (5, .int (((1 : Int32) <<< (i2 &&& 31)) - 1)), (4, .int (4095 &&& ((ng_sets j10) ^^^ (-1)))), (0, .ref xx0), (1, .int i1), (2, .int i2), (3, .int i3)]) hx hb dX5_stretch_65 hl (by decide) rfl (fun ls hl => ?_)
        obtain ⟨o46, o47, h61, h62⟩ := ob2 h60
        clear h60
        have kont43 : ∀ (H : Heap) (locs : List Loc) (ls : Array Slot), Wd d A s.heap (List.flatten [wX cy xx0 nw0 ps0 kp0 kq0 tr0 tp0 hs0 xx_isKept, wT cy nw0 nw1 nw2 ng0 nw_people nw_fewest nw_kinds nw_loves, wG cy ng0 ng1 ng2 ng3 ng_many ng_sets ng_chalk ng_wet ng_harvest ng_draw]) H locs → lv_has ls 10 [(3, .int i3), (6, .int o46), (7, .int o47)] → W p l e (rmo 1 22) s m args below meth c H locs 0 0 Q (F0 m 110 ls []) := by
          intro H locs ls hw hl
          clear h61
          refine lv_iload_n hx hb dX5_stretch_110 rfl (lv_at hl 0 rfl) ?_
          refine lv_if_ne (tgt := 119) hx hb dX5_stretch_111 (by decide) (fun c56 => ?_) (fun c56 => ?_)
          · rw [if_neg c56] at h62
            refine lv_iload hx hb dX5_stretch_119 (lv_at hl 2 rfl) ?_
            obtain rfl := inj1 h62
            exact hret _ _ _ _ hw dX5_stretch_121
          · rw [if_pos c56] at h62
            refine lv_iload hx hb dX5_stretch_114 (lv_at hl 1 rfl) ?_
            refine lv_goto (tgt := 121) hx hb dX5_stretch_116 (by decide) ?_
            obtain rfl := inj1 h62
            exact hret _ _ _ _ hw dX5_stretch_121
        clear h62
        have loop45 : ∀ (n : Nat) (v40 : Int32) (v41 : Int32) (v42 : Int32) (H : Heap) (locs : List Loc) (ls : Array Slot), Wd d A s.heap (List.flatten [wX cy xx0 nw0 ps0 kp0 kq0 tr0 tp0 hs0 xx_isKept, wT cy nw0 nw1 nw2 ng0 nw_people nw_fewest nw_kinds nw_loves, wG cy ng0 ng1 ng2 ng3 ng_many ng_sets ng_chalk ng_wet ng_harvest ng_draw]) H locs → lv_has ls 10 [(2, .int i2), (3, .int i3), (4, .int (4095 &&& ((ng_sets j10) ^^^ (-1)))), (5, .int (((1 : Int32) <<< (i2 &&& 31)) - 1)), (6, .int v40), (7, .int v41), (8, .int v42)] → fX5_stretch_L67 i2 ng_sets j10 n v40 v41 v42 = some (o46, o47) → W p l e (rmo 1 22) s m args below meth c H locs 0 0 Q (F0 m 67 ls []) := by
          intro n
          induction n with
          | zero =>
            intro v40 v41 v42 H locs ls hw hl h63
            rw [fX5_stretch_L67] at h63
            cases h63
          | succ n ih44 =>
            intro v40 v41 v42 H locs ls hw hl h64
            rw [fX5_stretch_L67] at h64
            refine lv_iload hx hb dX5_stretch_67 (lv_at hl 6 rfl) ?_
            refine lv_iload_n hx hb dX5_stretch_69 rfl (lv_at hl 0 rfl) ?_
            refine lv_iadd hx hb dX5_stretch_70 ?_
            refine lv_bipush (v := 12) hx hb dX5_stretch_71 (by decide) ?_
            refine lv_icmp_gt (tgt := 110) hx hb dX5_stretch_73 (by decide) (fun c48 => ?_) (fun c48 => ?_)
            · rw [if_pos c48] at h64
              obtain ⟨rfl, rfl⟩ := inj2 h64
              exact kont43 _ _ _ hw (lv_sub hl [1, 4, 5] rfl)
            · rw [if_neg c48] at h64
              refine lv_iload hx hb dX5_stretch_76 (lv_at hl 2 rfl) ?_
              refine lv_iload hx hb dX5_stretch_78 (lv_at hl 3 rfl) ?_
              refine lv_iload hx hb dX5_stretch_80 (lv_at hl 6 rfl) ?_
              refine lv_ishl hx hb dX5_stretch_82 ?_
              refine lv_iand hx hb dX5_stretch_83 ?_
              obtain ⟨r49, k50, h65⟩ := ob1 h64
              clear h64
              refine g_si F (cJ6_bitCount_0f7a4_ok l d cy ((4095 &&& ((ng_sets j10) ^^^ (-1))) &&& ((((1 : Int32) <<< (i2 &&& 31)) - 1) <<< (v42 &&& 31))) r49 k50) cal_J6_bitCount_0f7a4 t_613 rfl ⟨by decide, by decide⟩ hw (w' := List.flatten [wX cy xx0 nw0 ps0 kp0 kq0 tr0 tp0 hs0 xx_isKept, wT cy nw0 nw1 nw2 ng0 nw_people nw_fewest nw_kinds nw_loves, wG cy ng0 ng1 ng2 ng3 ng_many ng_sets ng_chalk ng_wet ng_harvest ng_draw]) Cut.nil hl.1 (Nat.le_of_ble_eq_true rfl) rfl dX5_stretch_84 (fun H locs hw => ?_)
              refine lv_istore (lv' := [(9, .int r49), (2, .int i2), (3, .int i3), (4, .int (4095 &&& ((ng_sets j10) ^^^ (-1)))), (5, .int (((1 : Int32) <<< (i2 &&& 31)) - 1)), (6, .int v40), (7, .int v41), (8, .int v42)]) hx hb dX5_stretch_87 hl (by decide) rfl (fun ls hl => ?_)
              refine lv_iload hx hb dX5_stretch_89 (lv_at hl 0 rfl) ?_
              refine lv_iload hx hb dX5_stretch_91 (lv_at hl 5 rfl) ?_
              obtain ⟨x52, x53, h66, h67⟩ := ob2 h65
              clear h65
              have kont54 : ∀ (H : Heap) (locs : List Loc) (ls : Array Slot), Wd d A s.heap (List.flatten [wX cy xx0 nw0 ps0 kp0 kq0 tr0 tp0 hs0 xx_isKept, wT cy nw0 nw1 nw2 ng0 nw_people nw_fewest nw_kinds nw_loves, wG cy ng0 ng1 ng2 ng3 ng_many ng_sets ng_chalk ng_wet ng_harvest ng_draw]) H locs → lv_has ls 10 [(2, .int i2), (3, .int i3), (4, .int (4095 &&& ((ng_sets j10) ^^^ (-1)))), (5, .int (((1 : Int32) <<< (i2 &&& 31)) - 1)), (6, .int x52), (7, .int x53), (8, .int v42)] → W p l e (rmo 1 22) s m args below meth c H locs 0 0 Q (F0 m 104 ls []) := by
                intro H locs ls hw hl
                clear h66
                refine lv_iinc (v := (v42 + 1)) (lv' := [(8, .int (v42 + 1)), (2, .int i2), (3, .int i3), (4, .int (4095 &&& ((ng_sets j10) ^^^ (-1)))), (5, .int (((1 : Int32) <<< (i2 &&& 31)) - 1)), (6, .int x52), (7, .int x53)]) hx hb dX5_stretch_104 hl (k := 6) rfl rfl (by decide) rfl (fun ls hl => ?_)
                refine lv_goto (tgt := 67) hx hb dX5_stretch_107 (by decide) ?_
                exact ih44 x52 x53 (v42 + 1) _ _ _ hw (lv_sub hl [1, 2, 3, 4, 5, 6, 0] rfl) h67
              clear h67
              refine lv_icmp_ge (tgt := 104) hx hb dX5_stretch_93 (by decide) (fun c55 => ?_) (fun c55 => ?_)
              · rw [if_pos c55] at h66
                obtain ⟨rfl, rfl⟩ := inj2 h66
                exact kont54 _ _ _ hw (lv_sub hl [1, 2, 3, 4, 5, 6, 7] rfl)
              · rw [if_neg c55] at h66
                refine lv_iload hx hb dX5_stretch_96 (lv_at hl 0 rfl) ?_
                refine lv_istore (lv' := [(6, .int r49), (9, .int r49), (2, .int i2), (3, .int i3), (4, .int (4095 &&& ((ng_sets j10) ^^^ (-1)))), (5, .int (((1 : Int32) <<< (i2 &&& 31)) - 1)), (7, .int v41), (8, .int v42)]) hx hb dX5_stretch_98 hl (by decide) rfl (fun ls hl => ?_)
                refine lv_iload hx hb dX5_stretch_100 (lv_at hl 7 rfl) ?_
                refine lv_istore (lv' := [(7, .int v42), (6, .int r49), (9, .int r49), (2, .int i2), (3, .int i3), (4, .int (4095 &&& ((ng_sets j10) ^^^ (-1)))), (5, .int (((1 : Int32) <<< (i2 &&& 31)) - 1)), (8, .int v42)]) hx hb dX5_stretch_102 hl (by decide) rfl (fun ls hl => ?_)
                obtain ⟨rfl, rfl⟩ := inj2 h66
                exact kont54 _ _ _ hw (lv_sub hl [3, 4, 5, 6, 1, 0, 7] rfl)
        exact loop45 fl 13 0 0 _ _ _ hw (lv_sub hl [7, 8, 4, 3, 2, 1, 0] rfl) h61
      · rw [if_pos c9] at h59
        refine lv_iconst (v := (-1)) hx hb dX5_stretch_28 (by decide) ?_
        obtain rfl := inj1 h59
        exact hret _ _ _ _ hw dX5_stretch_29
theorem cal_X5_more : CalV yX5_more cX5_more 11 (some .int) RX5 4 := ⟨t_617, t_615, t_616, t_37, by decide +kernel⟩
set_option maxHeartbeats 4000000 in
set_option maxRecDepth 100000 in
theorem cX5_more_ok (l : Launch) (d : va_G) (cy : Nat → ClassId) (xx0 nw0 nw1 nw2 ng0 ng1 ng2 ng3 ps0 kp0 kq0 tr0 tp0 hs0 : Nat) (xx_isKept : Int32) (nw_people : Int32) (nw_fewest : Int32) (nw_kinds : Nat → Int32) (nw_loves : Nat → Int32) (ng_many : Nat → Int32) (ng_sets : Nat → Int32) (ng_chalk : Nat → Int32) (ng_wet : Int32) (ng_harvest : Int32) (ng_draw : Int32) (i1 : Int32) (i2 : Int32) (i3 : Int32) (i4 : Int32) (r : Int32) (h0 : fX5_more nw_people nw_kinds nw_loves ng_sets ng_wet ng_harvest i1 i2 i3 i4 = some (r)) : CI l yX5_more cX5_more 11 (some .int) 4 97 d cy [.ref xx0, .int i1, .int i2, .int i3, .int i4] (List.flatten [wX cy xx0 nw0 ps0 kp0 kq0 tr0 tp0 hs0 xx_isKept, wT cy nw0 nw1 nw2 ng0 nw_people nw_fewest nw_kinds nw_loves, wG cy ng0 ng1 ng2 ng3 ng_many ng_sets ng_chalk ng_wet ng_harvest ng_draw]) (List.flatten [wX cy xx0 nw0 ps0 kp0 kq0 tr0 tp0 hs0 xx_isKept, wT cy nw0 nw1 nw2 ng0 nw_people nw_fewest nw_kinds nw_loves, wG cy ng0 ng1 ng2 ng3 ng_many ng_sets ng_chalk ng_wet ng_harvest ng_draw]) r := by
  refine CI.of (by decide) (Nat.le_of_ble_eq_true rfl) ?_
  intro p e s m args below meth c A ls Q F hret hw hl
  have hx := F.1
  have hb := F.2.1
  have hl : lv_has ls 11 [(0, .ref xx0), (1, .int i1), (2, .int i2), (3, .int i3), (4, .int i4)] := hl
  rw [fX5_more] at h0
  refine lv_aload_n hx hb dX5_more_0 rfl (lv_at hl 0 rfl) ?_
  refine g_get F inG5 hw 0 rfl rfl 0 (by decide) t_185 (fun _ h9 => h9) rfl dX5_more_1 ?_
  refine lv_iload_n hx hb dX5_more_4 rfl (lv_at hl 1 rfl) ?_
  obtain ⟨r1, k2, h77⟩ := ob1 h0
  clear h0
  refine g_vi F (cX4_isOne_ok l d cy nw0 nw1 nw2 ng0 ng1 ng2 ng3 nw_people nw_fewest nw_kinds nw_loves ng_many ng_sets ng_chalk ng_wet ng_harvest ng_draw i1 r1 k2) cal_X4_isOne t_233 rfl ⟨by decide, by decide⟩ hw (w' := List.flatten [wX cy xx0 nw0 ps0 kp0 kq0 tr0 tp0 hs0 xx_isKept, wT cy nw0 nw1 nw2 ng0 nw_people nw_fewest nw_kinds nw_loves, wG cy ng0 ng1 ng2 ng3 ng_many ng_sets ng_chalk ng_wet ng_harvest ng_draw]) (SCut.cut (SCut.skip (SCut.take SCut.rf (SCut.take SCut.rf SCut.none)))) 0 4 rfl rfl hl.1 (Nat.le_of_ble_eq_true rfl) rfl dX5_more_5 (fun H locs hw => ?_)
  refine lv_if_eq (tgt := 38) hx hb dX5_more_8 (by decide) (fun c3 => ?_) (fun c3 => ?_)
  · rw [if_pos c3] at h77
    refine lv_iconst (v := (-1)) hx hb dX5_more_38 (by decide) ?_
    obtain rfl := inj1 h77
    exact hret _ _ _ _ hw dX5_more_39
  · rw [if_neg c3] at h77
    refine lv_iload_n hx hb dX5_more_11 rfl (lv_at hl 2 rfl) ?_
    refine lv_iconst (v := 0) hx hb dX5_more_12 (by decide) ?_
    refine lv_iconst (v := 4) hx hb dX5_more_13 (by decide) ?_
    obtain ⟨r4, k5, h78⟩ := ob1 h77
    clear h77
    refine g_si F (cX5_isWithin_ok l d cy i2 0 4 r4 k5) cal_X5_isWithin t_214 rfl ⟨by decide, by decide⟩ hw (w' := List.flatten [wX cy xx0 nw0 ps0 kp0 kq0 tr0 tp0 hs0 xx_isKept, wT cy nw0 nw1 nw2 ng0 nw_people nw_fewest nw_kinds nw_loves, wG cy ng0 ng1 ng2 ng3 ng_many ng_sets ng_chalk ng_wet ng_harvest ng_draw]) Cut.nil hl.1 (Nat.le_of_ble_eq_true rfl) rfl dX5_more_14 (fun H locs hw => ?_)
    refine lv_if_eq (tgt := 38) hx hb dX5_more_17 (by decide) (fun c6 => ?_) (fun c6 => ?_)
    · rw [if_pos c6] at h78
      refine lv_iconst (v := (-1)) hx hb dX5_more_38 (by decide) ?_
      obtain rfl := inj1 h78
      exact hret _ _ _ _ hw dX5_more_39
    · rw [if_neg c6] at h78
      refine lv_iload_n hx hb dX5_more_20 rfl (lv_at hl 3 rfl) ?_
      refine lv_iconst (v := 0) hx hb dX5_more_21 (by decide) ?_
      refine lv_bipush (v := 20) hx hb dX5_more_22 (by decide) ?_
      obtain ⟨r7, k8, h79⟩ := ob1 h78
      clear h78
      refine g_si F (cX5_isWithin_ok l d cy i3 0 20 r7 k8) cal_X5_isWithin t_214 rfl ⟨by decide, by decide⟩ hw (w' := List.flatten [wX cy xx0 nw0 ps0 kp0 kq0 tr0 tp0 hs0 xx_isKept, wT cy nw0 nw1 nw2 ng0 nw_people nw_fewest nw_kinds nw_loves, wG cy ng0 ng1 ng2 ng3 ng_many ng_sets ng_chalk ng_wet ng_harvest ng_draw]) Cut.nil hl.1 (Nat.le_of_ble_eq_true rfl) rfl dX5_more_24 (fun H locs hw => ?_)
      refine lv_if_eq (tgt := 38) hx hb dX5_more_27 (by decide) (fun c9 => ?_) (fun c9 => ?_)
      · rw [if_pos c9] at h79
        refine lv_iconst (v := (-1)) hx hb dX5_more_38 (by decide) ?_
        obtain rfl := inj1 h79
        exact hret _ _ _ _ hw dX5_more_39
      · rw [if_neg c9] at h79
        refine lv_iload hx hb dX5_more_30 (lv_at hl 4 rfl) ?_
        obtain ⟨r10, k11, h80⟩ := ob1 h79
        clear h79
        refine g_si F (cX5_isFlag_ok l d cy i4 r10 k11) cal_X5_isFlag t_278 rfl ⟨by decide, by decide⟩ hw (w' := List.flatten [wX cy xx0 nw0 ps0 kp0 kq0 tr0 tp0 hs0 xx_isKept, wT cy nw0 nw1 nw2 ng0 nw_people nw_fewest nw_kinds nw_loves, wG cy ng0 ng1 ng2 ng3 ng_many ng_sets ng_chalk ng_wet ng_harvest ng_draw]) Cut.nil hl.1 (Nat.le_of_ble_eq_true rfl) rfl dX5_more_32 (fun H locs hw => ?_)
        refine lv_if_ne (tgt := 40) hx hb dX5_more_35 (by decide) (fun c12 => ?_) (fun c12 => ?_)
        · rw [if_neg c12] at h80
          refine lv_aload_n hx hb dX5_more_40 rfl (lv_at hl 0 rfl) ?_
          refine g_get F inG5 hw 0 rfl rfl 0 (by decide) t_185 (fun _ h9 => h9) rfl dX5_more_41 ?_
          refine g_get F inG4 hw 1 rfl rfl 4 (by decide) t_116 (fun _ h9 => h9) rfl dX5_more_44 ?_
          refine g_get F inG0 hw 4 rfl rfl 1 (by decide) t_74 (fun _ h9 => h9) rfl dX5_more_47 ?_
          refine lv_iload_n hx hb dX5_more_50 rfl (lv_at hl 1 rfl) ?_
          obtain ⟨j13, k14, h81⟩ := ob1 h80
          clear h80
          refine g_iald F hw 6 rfl k14 dX5_more_51 ?_
          refine lv_istore (lv' := [(5, .int (ng_sets j13)), (0, .ref xx0), (1, .int i1), (2, .int i2), (3, .int i3), (4, .int i4)]) hx hb dX5_more_52 hl (by decide) rfl (fun ls hl => ?_)
          refine lv_aload_n hx hb dX5_more_54 rfl (lv_at hl 1 rfl) ?_
          refine g_get F inG5 hw 0 rfl rfl 0 (by decide) t_185 (fun _ h9 => h9) rfl dX5_more_55 ?_
          refine lv_iload_n hx hb dX5_more_58 rfl (lv_at hl 2 rfl) ?_
          obtain ⟨r15, k16, h82⟩ := ob1 h81
          clear h81
          refine g_vi F (cX4_worthOf_ok l d cy nw0 nw1 nw2 ng0 ng1 ng2 ng3 nw_people nw_fewest nw_kinds nw_loves ng_many ng_sets ng_chalk ng_wet ng_harvest ng_draw i1 r15 k16) cal_X4_worthOf t_253 rfl ⟨by decide, by decide⟩ hw (w' := List.flatten [wX cy xx0 nw0 ps0 kp0 kq0 tr0 tp0 hs0 xx_isKept, wT cy nw0 nw1 nw2 ng0 nw_people nw_fewest nw_kinds nw_loves, wG cy ng0 ng1 ng2 ng3 ng_many ng_sets ng_chalk ng_wet ng_harvest ng_draw]) (SCut.cut (SCut.skip (SCut.take SCut.rf (SCut.take SCut.rf SCut.none)))) 0 4 rfl rfl hl.1 (Nat.le_of_ble_eq_true rfl) rfl dX5_more_59 (fun H locs hw => ?_)
          refine lv_istore (lv' := [(6, .int r15), (5, .int (ng_sets j13)), (0, .ref xx0), (1, .int i1), (2, .int i2), (3, .int i3), (4, .int i4)]) hx hb dX5_more_62 hl (by decide) rfl (fun ls hl => ?_)
          refine lv_iconst (v := 0) hx hb dX5_more_64 (by decide) ?_
          refine lv_istore (lv' := [(7, .int 0), (6, .int r15), (5, .int (ng_sets j13)), (0, .ref xx0), (1, .int i1), (2, .int i2), (3, .int i3), (4, .int i4)]) hx hb dX5_more_65 hl (by decide) rfl (fun ls hl => ?_)
          refine lv_iconst (v := 1) hx hb dX5_more_67 (by decide) ?_
          refine lv_istore (lv' := [(8, .int 1), (7, .int 0), (6, .int r15), (5, .int (ng_sets j13)), (0, .ref xx0), (1, .int i1), (2, .int i2), (3, .int i3), (4, .int i4)]) hx hb dX5_more_68 hl (by decide) rfl (fun ls hl => ?_)
          obtain ⟨o58, o59, h83, h84⟩ := ob2 h82
          clear h82
          have kont55 : ∀ (H : Heap) (locs : List Loc) (ls : Array Slot), Wd d A s.heap (List.flatten [wX cy xx0 nw0 ps0 kp0 kq0 tr0 tp0 hs0 xx_isKept, wT cy nw0 nw1 nw2 ng0 nw_people nw_fewest nw_kinds nw_loves, wG cy ng0 ng1 ng2 ng3 ng_many ng_sets ng_chalk ng_wet ng_harvest ng_draw]) H locs → lv_has ls 11 [(4, .int i4), (6, .int o58), (7, .int o59)] → W p l e (rmo 4 97) s m args below meth c H locs 0 0 Q (F0 m 143 ls []) := by
            intro H locs ls hw hl
            clear h83
            refine lv_iload hx hb dX5_more_143 (lv_at hl 0 rfl) ?_
            refine lv_if_ne (tgt := 153) hx hb dX5_more_145 (by decide) (fun c76 => ?_) (fun c76 => ?_)
            · rw [if_neg c76] at h84
              refine lv_iload hx hb dX5_more_153 (lv_at hl 2 rfl) ?_
              obtain rfl := inj1 h84
              exact hret _ _ _ _ hw dX5_more_155
            · rw [if_pos c76] at h84
              refine lv_iload hx hb dX5_more_148 (lv_at hl 1 rfl) ?_
              refine lv_goto (tgt := 155) hx hb dX5_more_150 (by decide) ?_
              obtain rfl := inj1 h84
              exact hret _ _ _ _ hw dX5_more_155
          clear h84
          have loop57 : ∀ (n : Nat) (v52 : Int32) (v53 : Int32) (v54 : Int32) (H : Heap) (locs : List Loc) (ls : Array Slot), Wd d A s.heap (List.flatten [wX cy xx0 nw0 ps0 kp0 kq0 tr0 tp0 hs0 xx_isKept, wT cy nw0 nw1 nw2 ng0 nw_people nw_fewest nw_kinds nw_loves, wG cy ng0 ng1 ng2 ng3 ng_many ng_sets ng_chalk ng_wet ng_harvest ng_draw]) H locs → lv_has ls 11 [(0, .ref xx0), (1, .int i1), (2, .int i2), (3, .int i3), (4, .int i4), (5, .int (ng_sets j13)), (6, .int v52), (7, .int v53), (8, .int v54)] → fX5_more_L70 i1 i2 i3 ng_harvest ng_sets ng_wet nw_kinds nw_loves j13 n v52 v53 v54 = some (o58, o59) → W p l e (rmo 4 97) s m args below meth c H locs 0 0 Q (F0 m 70 ls []) := by
            intro n
            induction n with
            | zero =>
              intro v52 v53 v54 H locs ls hw hl h85
              rw [fX5_more_L70] at h85
              cases h85
            | succ n ih56 =>
              intro v52 v53 v54 H locs ls hw hl h86
              rw [fX5_more_L70] at h86
              refine lv_iload hx hb dX5_more_70 (lv_at hl 8 rfl) ?_
              refine lv_sipush (v := 4095) hx hb dX5_more_72 (by decide) ?_
              refine lv_icmp_gt (tgt := 143) hx hb dX5_more_75 (by decide) (fun c60 => ?_) (fun c60 => ?_)
              · rw [if_pos c60] at h86
                obtain ⟨rfl, rfl⟩ := inj2 h86
                exact kont55 _ _ _ hw (lv_sub hl [4, 6, 7] rfl)
              · rw [if_neg c60] at h86
                refine lv_iload hx hb dX5_more_78 (lv_at hl 8 rfl) ?_
                obtain ⟨r61, k62, h87⟩ := ob1 h86
                clear h86
                refine g_si F (cJ6_bitCount_0f7a4_ok l d cy v54 r61 k62) cal_J6_bitCount_0f7a4 t_613 rfl ⟨by decide, by decide⟩ hw (w' := List.flatten [wX cy xx0 nw0 ps0 kp0 kq0 tr0 tp0 hs0 xx_isKept, wT cy nw0 nw1 nw2 ng0 nw_people nw_fewest nw_kinds nw_loves, wG cy ng0 ng1 ng2 ng3 ng_many ng_sets ng_chalk ng_wet ng_harvest ng_draw]) Cut.nil hl.1 (Nat.le_of_ble_eq_true rfl) rfl dX5_more_80 (fun H locs hw => ?_)
                refine lv_istore (lv' := [(9, .int r61), (0, .ref xx0), (1, .int i1), (2, .int i2), (3, .int i3), (4, .int i4), (5, .int (ng_sets j13)), (6, .int v52), (7, .int v53), (8, .int v54)]) hx hb dX5_more_83 hl (by decide) rfl (fun ls hl => ?_)
                refine lv_iload hx hb dX5_more_85 (lv_at hl 0 rfl) ?_
                refine lv_iload_n hx hb dX5_more_87 rfl (lv_at hl 3 rfl) ?_
                obtain ⟨x68, x69, h88, h89⟩ := ob2 h87
                clear h87
                have kont70 : ∀ (H : Heap) (locs : List Loc) (ls : Array Slot), Wd d A s.heap (List.flatten [wX cy xx0 nw0 ps0 kp0 kq0 tr0 tp0 hs0 xx_isKept, wT cy nw0 nw1 nw2 ng0 nw_people nw_fewest nw_kinds nw_loves, wG cy ng0 ng1 ng2 ng3 ng_many ng_sets ng_chalk ng_wet ng_harvest ng_draw]) H locs → lv_has ls 11 [(0, .ref xx0), (1, .int i1), (2, .int i2), (3, .int i3), (4, .int i4), (5, .int (ng_sets j13)), (6, .int x68), (7, .int x69), (8, .int v54)] → W p l e (rmo 4 97) s m args below meth c H locs 0 0 Q (F0 m 137 ls []) := by
                  intro H locs ls hw hl
                  clear h88
                  refine lv_iinc (v := (v54 + 1)) (lv' := [(8, .int (v54 + 1)), (0, .ref xx0), (1, .int i1), (2, .int i2), (3, .int i3), (4, .int i4), (5, .int (ng_sets j13)), (6, .int x68), (7, .int x69)]) hx hb dX5_more_137 hl (k := 8) rfl rfl (by decide) rfl (fun ls hl => ?_)
                  refine lv_goto (tgt := 70) hx hb dX5_more_140 (by decide) ?_
                  exact ih56 x68 x69 (v54 + 1) _ _ _ hw (lv_sub hl [1, 2, 3, 4, 5, 6, 7, 8, 0] rfl) h89
                clear h89
                refine lv_icmp_gt (tgt := 137) hx hb dX5_more_88 (by decide) (fun c71 => ?_) (fun c71 => ?_)
                · rw [if_pos c71] at h88
                  obtain ⟨rfl, rfl⟩ := inj2 h88
                  exact kont70 _ _ _ hw (lv_sub hl [1, 2, 3, 4, 5, 6, 7, 8, 9] rfl)
                · rw [if_neg c71] at h88
                  refine lv_iload hx hb dX5_more_91 (lv_at hl 9 rfl) ?_
                  refine lv_iload hx hb dX5_more_93 (lv_at hl 6 rfl) ?_
                  refine lv_iand hx hb dX5_more_95 ?_
                  refine lv_if_eq (tgt := 102) hx hb dX5_more_96 (by decide) (fun c72 => ?_) (fun c72 => ?_)
                  · rw [if_pos c72] at h88
                    refine lv_aload_n hx hb dX5_more_102 rfl (lv_at hl 1 rfl) ?_
                    refine g_get F inG5 hw 0 rfl rfl 0 (by decide) t_185 (fun _ h9 => h9) rfl dX5_more_103 ?_
                    refine lv_iload_n hx hb dX5_more_106 rfl (lv_at hl 2 rfl) ?_
                    refine lv_iload hx hb dX5_more_107 (lv_at hl 6 rfl) ?_
                    refine lv_iload hx hb dX5_more_109 (lv_at hl 9 rfl) ?_
                    refine lv_ior hx hb dX5_more_111 ?_
                    obtain ⟨r73, k74, h90⟩ := ob1 h88
                    clear h88
                    refine g_vi F (cX4_worthOfSet_ok l d cy nw0 nw1 nw2 ng0 ng1 ng2 ng3 nw_people nw_fewest nw_kinds nw_loves ng_many ng_sets ng_chalk ng_wet ng_harvest ng_draw i1 ((ng_sets j13) ||| v54) r73 k74) cal_X4_worthOfSet t_618 rfl ⟨by decide, by decide⟩ hw (w' := List.flatten [wX cy xx0 nw0 ps0 kp0 kq0 tr0 tp0 hs0 xx_isKept, wT cy nw0 nw1 nw2 ng0 nw_people nw_fewest nw_kinds nw_loves, wG cy ng0 ng1 ng2 ng3 ng_many ng_sets ng_chalk ng_wet ng_harvest ng_draw]) (SCut.cut (SCut.skip (SCut.take SCut.rf (SCut.take SCut.rf SCut.none)))) 0 4 rfl rfl hl.1 (Nat.le_of_ble_eq_true rfl) rfl dX5_more_112 (fun H locs hw => ?_)
                    refine lv_iload hx hb dX5_more_115 (lv_at hl 0 rfl) ?_
                    refine lv_iload_n hx hb dX5_more_117 rfl (lv_at hl 4 rfl) ?_
                    refine lv_imul hx hb dX5_more_118 ?_
                    refine lv_isub hx hb dX5_more_119 ?_
                    refine lv_istore (lv' := [(10, .int (r73 - (r61 * i3))), (9, .int r61), (0, .ref xx0), (1, .int i1), (2, .int i2), (3, .int i3), (4, .int i4), (5, .int (ng_sets j13)), (6, .int v52), (7, .int v53), (8, .int v54)]) hx hb dX5_more_120 hl (by decide) rfl (fun ls hl => ?_)
                    refine lv_iload hx hb dX5_more_122 (lv_at hl 0 rfl) ?_
                    refine lv_iload hx hb dX5_more_124 (lv_at hl 8 rfl) ?_
                    refine lv_icmp_le (tgt := 137) hx hb dX5_more_126 (by decide) (fun c75 => ?_) (fun c75 => ?_)
                    · rw [if_pos c75] at h90
                      obtain ⟨rfl, rfl⟩ := inj2 h90
                      exact kont70 _ _ _ hw (lv_sub hl [2, 3, 4, 5, 6, 7, 8, 9, 10] rfl)
                    · rw [if_neg c75] at h90
                      refine lv_iload hx hb dX5_more_129 (lv_at hl 0 rfl) ?_
                      refine lv_istore (lv' := [(6, .int (r73 - (r61 * i3))), (10, .int (r73 - (r61 * i3))), (9, .int r61), (0, .ref xx0), (1, .int i1), (2, .int i2), (3, .int i3), (4, .int i4), (5, .int (ng_sets j13)), (7, .int v53), (8, .int v54)]) hx hb dX5_more_131 hl (by decide) rfl (fun ls hl => ?_)
                      refine lv_iload hx hb dX5_more_133 (lv_at hl 10 rfl) ?_
                      refine lv_istore (lv' := [(7, .int v54), (6, .int (r73 - (r61 * i3))), (10, .int (r73 - (r61 * i3))), (9, .int r61), (0, .ref xx0), (1, .int i1), (2, .int i2), (3, .int i3), (4, .int i4), (5, .int (ng_sets j13)), (8, .int v54)]) hx hb dX5_more_135 hl (by decide) rfl (fun ls hl => ?_)
                      obtain ⟨rfl, rfl⟩ := inj2 h90
                      exact kont70 _ _ _ hw (lv_sub hl [4, 5, 6, 7, 8, 9, 1, 0, 10] rfl)
                  · rw [if_neg c72] at h88
                    refine lv_goto (tgt := 137) hx hb dX5_more_99 (by decide) ?_
                    obtain ⟨rfl, rfl⟩ := inj2 h88
                    exact kont70 _ _ _ hw (lv_sub hl [1, 2, 3, 4, 5, 6, 7, 8, 9] rfl)
          exact loop57 fl r15 0 1 _ _ _ hw (lv_sub hl [4, 5, 6, 7, 8, 3, 2, 1, 0] rfl) h83
        · rw [if_pos c12] at h80
          refine lv_iconst (v := (-1)) hx hb dX5_more_38 (by decide) ?_
          obtain rfl := inj1 h80
          exact hret _ _ _ _ hw dX5_more_39
theorem cal_X5_envy : CalV yX5_envy cX5_envy 7 (some .int) RX5 2 := ⟨t_625, t_623, t_624, t_37, by decide +kernel⟩
set_option maxHeartbeats 4000000 in
set_option maxRecDepth 100000 in
theorem cX5_envy_ok (l : Launch) (d : va_G) (cy : Nat → ClassId) (xx0 nw0 nw1 nw2 ng0 ng1 ng2 ng3 ps0 kp0 kq0 tr0 tp0 hs0 : Nat) (xx_isKept : Int32) (nw_people : Int32) (nw_fewest : Int32) (nw_kinds : Nat → Int32) (nw_loves : Nat → Int32) (ng_many : Nat → Int32) (ng_sets : Nat → Int32) (ng_chalk : Nat → Int32) (ng_wet : Int32) (ng_harvest : Int32) (ng_draw : Int32) (i1 : Int32) (i2 : Int32) (r : Int32) (h0 : fX5_envy nw_people nw_kinds nw_loves ng_sets ng_wet ng_harvest i1 i2 = some (r)) : CI l yX5_envy cX5_envy 7 (some .int) 4 97 d cy [.ref xx0, .int i1, .int i2] (List.flatten [wX cy xx0 nw0 ps0 kp0 kq0 tr0 tp0 hs0 xx_isKept, wT cy nw0 nw1 nw2 ng0 nw_people nw_fewest nw_kinds nw_loves, wG cy ng0 ng1 ng2 ng3 ng_many ng_sets ng_chalk ng_wet ng_harvest ng_draw]) (List.flatten [wX cy xx0 nw0 ps0 kp0 kq0 tr0 tp0 hs0 xx_isKept, wT cy nw0 nw1 nw2 ng0 nw_people nw_fewest nw_kinds nw_loves, wG cy ng0 ng1 ng2 ng3 ng_many ng_sets ng_chalk ng_wet ng_harvest ng_draw]) r := by
  refine CI.of (by decide) (Nat.le_of_ble_eq_true rfl) ?_
  intro p e s m args below meth c A ls Q F hret hw hl
  have hx := F.1
  have hb := F.2.1
  have hl : lv_has ls 7 [(0, .ref xx0), (1, .int i1), (2, .int i2)] := hl
  rw [fX5_envy] at h0
  refine lv_aload_n hx hb dX5_envy_0 rfl (lv_at hl 0 rfl) ?_
  refine g_get F inG5 hw 0 rfl rfl 0 (by decide) t_185 (fun _ h9 => h9) rfl dX5_envy_1 ?_
  refine lv_iload_n hx hb dX5_envy_4 rfl (lv_at hl 1 rfl) ?_
  obtain ⟨r1, k2, h52⟩ := ob1 h0
  clear h0
  refine g_vi F (cX4_isOne_ok l d cy nw0 nw1 nw2 ng0 ng1 ng2 ng3 nw_people nw_fewest nw_kinds nw_loves ng_many ng_sets ng_chalk ng_wet ng_harvest ng_draw i1 r1 k2) cal_X4_isOne t_233 rfl ⟨by decide, by decide⟩ hw (w' := List.flatten [wX cy xx0 nw0 ps0 kp0 kq0 tr0 tp0 hs0 xx_isKept, wT cy nw0 nw1 nw2 ng0 nw_people nw_fewest nw_kinds nw_loves, wG cy ng0 ng1 ng2 ng3 ng_many ng_sets ng_chalk ng_wet ng_harvest ng_draw]) (SCut.cut (SCut.skip (SCut.take SCut.rf (SCut.take SCut.rf SCut.none)))) 0 4 rfl rfl hl.1 (Nat.le_of_ble_eq_true rfl) rfl dX5_envy_5 (fun H locs hw => ?_)
  refine lv_if_eq (tgt := 18) hx hb dX5_envy_8 (by decide) (fun c3 => ?_) (fun c3 => ?_)
  · rw [if_pos c3] at h52
    refine lv_iconst (v := (-1)) hx hb dX5_envy_18 (by decide) ?_
    obtain rfl := inj1 h52
    exact hret _ _ _ _ hw dX5_envy_19
  · rw [if_neg c3] at h52
    refine lv_iload_n hx hb dX5_envy_11 rfl (lv_at hl 2 rfl) ?_
    obtain ⟨r4, k5, h53⟩ := ob1 h52
    clear h52
    refine g_si F (cX5_isFlag_ok l d cy i2 r4 k5) cal_X5_isFlag t_278 rfl ⟨by decide, by decide⟩ hw (w' := List.flatten [wX cy xx0 nw0 ps0 kp0 kq0 tr0 tp0 hs0 xx_isKept, wT cy nw0 nw1 nw2 ng0 nw_people nw_fewest nw_kinds nw_loves, wG cy ng0 ng1 ng2 ng3 ng_many ng_sets ng_chalk ng_wet ng_harvest ng_draw]) Cut.nil hl.1 (Nat.le_of_ble_eq_true rfl) rfl dX5_envy_12 (fun H locs hw => ?_)
    refine lv_if_ne (tgt := 20) hx hb dX5_envy_15 (by decide) (fun c6 => ?_) (fun c6 => ?_)
    · rw [if_neg c6] at h53
      refine lv_aload_n hx hb dX5_envy_20 rfl (lv_at hl 0 rfl) ?_
      refine g_get F inG5 hw 0 rfl rfl 0 (by decide) t_185 (fun _ h9 => h9) rfl dX5_envy_21 ?_
      refine lv_iload_n hx hb dX5_envy_24 rfl (lv_at hl 1 rfl) ?_
      obtain ⟨r7, k8, h54⟩ := ob1 h53
      clear h53
      refine g_vi F (cX4_worthOf_ok l d cy nw0 nw1 nw2 ng0 ng1 ng2 ng3 nw_people nw_fewest nw_kinds nw_loves ng_many ng_sets ng_chalk ng_wet ng_harvest ng_draw i1 r7 k8) cal_X4_worthOf t_253 rfl ⟨by decide, by decide⟩ hw (w' := List.flatten [wX cy xx0 nw0 ps0 kp0 kq0 tr0 tp0 hs0 xx_isKept, wT cy nw0 nw1 nw2 ng0 nw_people nw_fewest nw_kinds nw_loves, wG cy ng0 ng1 ng2 ng3 ng_many ng_sets ng_chalk ng_wet ng_harvest ng_draw]) (SCut.cut (SCut.skip (SCut.take SCut.rf (SCut.take SCut.rf SCut.none)))) 0 4 rfl rfl hl.1 (Nat.le_of_ble_eq_true rfl) rfl dX5_envy_25 (fun H locs hw => ?_)
      refine lv_istore_n (lv' := [(3, .int r7), (0, .ref xx0), (1, .int i1), (2, .int i2)]) hx hb dX5_envy_28 rfl hl (by decide) rfl (fun ls hl => ?_)
      refine lv_bipush (v := (-4)) hx hb dX5_envy_29 (by decide) ?_
      refine lv_istore (lv' := [(4, .int (-4)), (3, .int r7), (0, .ref xx0), (1, .int i1), (2, .int i2)]) hx hb dX5_envy_31 hl (by decide) rfl (fun ls hl => ?_)
      refine lv_iconst (v := 0) hx hb dX5_envy_33 (by decide) ?_
      refine lv_istore (lv' := [(5, .int 0), (4, .int (-4)), (3, .int r7), (0, .ref xx0), (1, .int i1), (2, .int i2)]) hx hb dX5_envy_34 hl (by decide) rfl (fun ls hl => ?_)
      obtain ⟨o38, o39, h55, h56⟩ := ob2 h54
      clear h54
      have kont35 : ∀ (H : Heap) (locs : List Loc) (ls : Array Slot), Wd d A s.heap (List.flatten [wX cy xx0 nw0 ps0 kp0 kq0 tr0 tp0 hs0 xx_isKept, wT cy nw0 nw1 nw2 ng0 nw_people nw_fewest nw_kinds nw_loves, wG cy ng0 ng1 ng2 ng3 ng_many ng_sets ng_chalk ng_wet ng_harvest ng_draw]) H locs → lv_has ls 7 [(2, .int i2), (3, .int o38), (4, .int o39)] → W p l e (rmo 4 97) s m args below meth c H locs 0 0 Q (F0 m 90 ls []) := by
        intro H locs ls hw hl
        clear h55
        refine lv_iload hx hb dX5_envy_90 (lv_at hl 2 rfl) ?_
        refine lv_bipush (v := (-4)) hx hb dX5_envy_92 (by decide) ?_
        refine lv_icmp_eq (tgt := 101) hx hb dX5_envy_94 (by decide) (fun c50 => ?_) (fun c50 => ?_)
        · rw [if_pos c50] at h56
          refine lv_iload hx hb dX5_envy_101 (lv_at hl 2 rfl) ?_
          refine lv_goto (tgt := 107) hx hb dX5_envy_103 (by decide) ?_
          obtain rfl := inj1 h56
          exact hret _ _ _ _ hw dX5_envy_107
        · rw [if_neg c50] at h56
          refine lv_iload_n hx hb dX5_envy_97 rfl (lv_at hl 0 rfl) ?_
          refine lv_if_ne (tgt := 106) hx hb dX5_envy_98 (by decide) (fun c51 => ?_) (fun c51 => ?_)
          · rw [if_neg c51] at h56
            refine lv_iload_n hx hb dX5_envy_106 rfl (lv_at hl 1 rfl) ?_
            obtain rfl := inj1 h56
            exact hret _ _ _ _ hw dX5_envy_107
          · rw [if_pos c51] at h56
            refine lv_iload hx hb dX5_envy_101 (lv_at hl 2 rfl) ?_
            refine lv_goto (tgt := 107) hx hb dX5_envy_103 (by decide) ?_
            obtain rfl := inj1 h56
            exact hret _ _ _ _ hw dX5_envy_107
      clear h56
      have loop37 : ∀ (n : Nat) (v32 : Int32) (v33 : Int32) (v34 : Int32) (H : Heap) (locs : List Loc) (ls : Array Slot), Wd d A s.heap (List.flatten [wX cy xx0 nw0 ps0 kp0 kq0 tr0 tp0 hs0 xx_isKept, wT cy nw0 nw1 nw2 ng0 nw_people nw_fewest nw_kinds nw_loves, wG cy ng0 ng1 ng2 ng3 ng_many ng_sets ng_chalk ng_wet ng_harvest ng_draw]) H locs → lv_has ls 7 [(0, .ref xx0), (1, .int i1), (2, .int i2), (3, .int v32), (4, .int v33), (5, .int v34)] → fX5_envy_L36 i1 ng_harvest ng_sets ng_wet nw_kinds nw_loves nw_people n v32 v33 v34 = some (o38, o39) → W p l e (rmo 4 97) s m args below meth c H locs 0 0 Q (F0 m 36 ls []) := by
        intro n
        induction n with
        | zero =>
          intro v32 v33 v34 H locs ls hw hl h57
          rw [fX5_envy_L36] at h57
          cases h57
        | succ n ih36 =>
          intro v32 v33 v34 H locs ls hw hl h58
          rw [fX5_envy_L36] at h58
          refine lv_iload hx hb dX5_envy_36 (lv_at hl 5 rfl) ?_
          refine lv_aload_n hx hb dX5_envy_38 rfl (lv_at hl 0 rfl) ?_
          refine g_get F inG5 hw 0 rfl rfl 0 (by decide) t_185 (fun _ h9 => h9) rfl dX5_envy_39 ?_
          refine g_get F inG4 hw 1 rfl rfl 0 (by decide) t_105 (fun _ h9 => h9) rfl dX5_envy_42 ?_
          refine lv_icmp_ge (tgt := 90) hx hb dX5_envy_45 (by decide) (fun c40 => ?_) (fun c40 => ?_)
          · rw [if_pos c40] at h58
            obtain ⟨rfl, rfl⟩ := inj2 h58
            exact kont35 _ _ _ hw (lv_sub hl [2, 3, 4] rfl)
          · rw [if_neg c40] at h58
            refine lv_aload_n hx hb dX5_envy_48 rfl (lv_at hl 0 rfl) ?_
            refine g_get F inG5 hw 0 rfl rfl 0 (by decide) t_185 (fun _ h9 => h9) rfl dX5_envy_49 ?_
            refine lv_iload_n hx hb dX5_envy_52 rfl (lv_at hl 1 rfl) ?_
            refine lv_aload_n hx hb dX5_envy_53 rfl (lv_at hl 0 rfl) ?_
            refine g_get F inG5 hw 0 rfl rfl 0 (by decide) t_185 (fun _ h9 => h9) rfl dX5_envy_54 ?_
            refine g_get F inG4 hw 1 rfl rfl 4 (by decide) t_116 (fun _ h9 => h9) rfl dX5_envy_57 ?_
            refine g_get F inG0 hw 4 rfl rfl 1 (by decide) t_74 (fun _ h9 => h9) rfl dX5_envy_60 ?_
            refine lv_iload hx hb dX5_envy_63 (lv_at hl 5 rfl) ?_
            obtain ⟨j41, k42, h59⟩ := ob1 h58
            clear h58
            refine g_iald F hw 6 rfl k42 dX5_envy_65 ?_
            obtain ⟨r43, k44, h60⟩ := ob1 h59
            clear h59
            refine g_vi F (cX4_worthOfSet_ok l d cy nw0 nw1 nw2 ng0 ng1 ng2 ng3 nw_people nw_fewest nw_kinds nw_loves ng_many ng_sets ng_chalk ng_wet ng_harvest ng_draw i1 (ng_sets j41) r43 k44) cal_X4_worthOfSet t_618 rfl ⟨by decide, by decide⟩ hw (w' := List.flatten [wX cy xx0 nw0 ps0 kp0 kq0 tr0 tp0 hs0 xx_isKept, wT cy nw0 nw1 nw2 ng0 nw_people nw_fewest nw_kinds nw_loves, wG cy ng0 ng1 ng2 ng3 ng_many ng_sets ng_chalk ng_wet ng_harvest ng_draw]) (SCut.cut (SCut.skip (SCut.take SCut.rf (SCut.take SCut.rf SCut.none)))) 0 4 rfl rfl hl.1 (Nat.le_of_ble_eq_true rfl) rfl dX5_envy_66 (fun H locs hw => ?_)
            refine lv_istore (lv' := [(6, .int r43), (0, .ref xx0), (1, .int i1), (2, .int i2), (3, .int v32), (4, .int v33), (5, .int v34)]) hx hb dX5_envy_69 hl (by decide) rfl (fun ls hl => ?_)
            refine lv_iload hx hb dX5_envy_71 (lv_at hl 0 rfl) ?_
            refine lv_iload_n hx hb dX5_envy_73 rfl (lv_at hl 4 rfl) ?_
            obtain ⟨x46, x47, h61, h62⟩ := ob2 h60
            clear h60
            have kont48 : ∀ (H : Heap) (locs : List Loc) (ls : Array Slot), Wd d A s.heap (List.flatten [wX cy xx0 nw0 ps0 kp0 kq0 tr0 tp0 hs0 xx_isKept, wT cy nw0 nw1 nw2 ng0 nw_people nw_fewest nw_kinds nw_loves, wG cy ng0 ng1 ng2 ng3 ng_many ng_sets ng_chalk ng_wet ng_harvest ng_draw]) H locs → lv_has ls 7 [(0, .ref xx0), (1, .int i1), (2, .int i2), (3, .int x46), (4, .int x47), (5, .int v34)] → W p l e (rmo 4 97) s m args below meth c H locs 0 0 Q (F0 m 84 ls []) := by
              intro H locs ls hw hl
              clear h61
              refine lv_iinc (v := (v34 + 1)) (lv' := [(5, .int (v34 + 1)), (0, .ref xx0), (1, .int i1), (2, .int i2), (3, .int x46), (4, .int x47)]) hx hb dX5_envy_84 hl (k := 5) rfl rfl (by decide) rfl (fun ls hl => ?_)
              refine lv_goto (tgt := 36) hx hb dX5_envy_87 (by decide) ?_
              exact ih36 x46 x47 (v34 + 1) _ _ _ hw (lv_sub hl [1, 2, 3, 4, 5, 0] rfl) h62
            clear h62
            refine lv_icmp_le (tgt := 84) hx hb dX5_envy_74 (by decide) (fun c49 => ?_) (fun c49 => ?_)
            · rw [if_pos c49] at h61
              obtain ⟨rfl, rfl⟩ := inj2 h61
              exact kont48 _ _ _ hw (lv_sub hl [1, 2, 3, 4, 5, 6] rfl)
            · rw [if_neg c49] at h61
              refine lv_iload hx hb dX5_envy_77 (lv_at hl 0 rfl) ?_
              refine lv_istore_n (lv' := [(3, .int r43), (6, .int r43), (0, .ref xx0), (1, .int i1), (2, .int i2), (4, .int v33), (5, .int v34)]) hx hb dX5_envy_79 rfl hl (by decide) rfl (fun ls hl => ?_)
              refine lv_iload hx hb dX5_envy_80 (lv_at hl 6 rfl) ?_
              refine lv_istore (lv' := [(4, .int v34), (3, .int r43), (6, .int r43), (0, .ref xx0), (1, .int i1), (2, .int i2), (5, .int v34)]) hx hb dX5_envy_82 hl (by decide) rfl (fun ls hl => ?_)
              obtain ⟨rfl, rfl⟩ := inj2 h61
              exact kont48 _ _ _ hw (lv_sub hl [3, 4, 5, 1, 0, 6] rfl)
      exact loop37 fl r7 (-4) 0 _ _ _ hw (lv_sub hl [3, 4, 5, 2, 1, 0] rfl) h55
    · rw [if_pos c6] at h53
      refine lv_iconst (v := (-1)) hx hb dX5_envy_18 (by decide) ?_
      obtain rfl := inj1 h53
      exact hret _ _ _ _ hw dX5_envy_19
theorem cal_X5_both : CalV yX5_both cX5_both 3 (some .int) RX5 2 := ⟨t_629, t_627, t_628, t_37, by decide +kernel⟩
set_option maxHeartbeats 4000000 in
set_option maxRecDepth 100000 in
theorem cX5_both_ok (l : Launch) (d : va_G) (cy : Nat → ClassId) (xx0 nw0 nw1 nw2 ng0 ng1 ng2 ng3 ps0 kp0 kq0 tr0 tp0 hs0 : Nat) (xx_isKept : Int32) (nw_people : Int32) (nw_fewest : Int32) (nw_kinds : Nat → Int32) (nw_loves : Nat → Int32) (ng_many : Nat → Int32) (ng_sets : Nat → Int32) (ng_chalk : Nat → Int32) (ng_wet : Int32) (ng_harvest : Int32) (ng_draw : Int32) (i1 : Int32) (i2 : Int32) (r : Int32) (h0 : fX5_both nw_people ng_sets i1 i2 = some (r)) : CI l yX5_both cX5_both 3 (some .int) 1 21 d cy [.ref xx0, .int i1, .int i2] (List.flatten [wX cy xx0 nw0 ps0 kp0 kq0 tr0 tp0 hs0 xx_isKept, wT cy nw0 nw1 nw2 ng0 nw_people nw_fewest nw_kinds nw_loves, wG cy ng0 ng1 ng2 ng3 ng_many ng_sets ng_chalk ng_wet ng_harvest ng_draw]) (List.flatten [wX cy xx0 nw0 ps0 kp0 kq0 tr0 tp0 hs0 xx_isKept, wT cy nw0 nw1 nw2 ng0 nw_people nw_fewest nw_kinds nw_loves, wG cy ng0 ng1 ng2 ng3 ng_many ng_sets ng_chalk ng_wet ng_harvest ng_draw]) r := by
  refine CI.of (by decide) (Nat.le_of_ble_eq_true rfl) ?_
  intro p e s m args below meth c A ls Q F hret hw hl
  have hx := F.1
  have hb := F.2.1
  have hl : lv_has ls 3 [(0, .ref xx0), (1, .int i1), (2, .int i2)] := hl
  rw [fX5_both] at h0
  refine lv_aload_n hx hb dX5_both_0 rfl (lv_at hl 0 rfl) ?_
  refine g_get F inG5 hw 0 rfl rfl 0 (by decide) t_185 (fun _ h9 => h9) rfl dX5_both_1 ?_
  refine lv_iload_n hx hb dX5_both_4 rfl (lv_at hl 1 rfl) ?_
  obtain ⟨r1, k2, h11⟩ := ob1 h0
  clear h0
  refine g_vi F (cX4_isOne_ok l d cy nw0 nw1 nw2 ng0 ng1 ng2 ng3 nw_people nw_fewest nw_kinds nw_loves ng_many ng_sets ng_chalk ng_wet ng_harvest ng_draw i1 r1 k2) cal_X4_isOne t_233 rfl ⟨by decide, by decide⟩ hw (w' := List.flatten [wX cy xx0 nw0 ps0 kp0 kq0 tr0 tp0 hs0 xx_isKept, wT cy nw0 nw1 nw2 ng0 nw_people nw_fewest nw_kinds nw_loves, wG cy ng0 ng1 ng2 ng3 ng_many ng_sets ng_chalk ng_wet ng_harvest ng_draw]) (SCut.cut (SCut.skip (SCut.take SCut.rf (SCut.take SCut.rf SCut.none)))) 0 4 rfl rfl hl.1 (Nat.le_of_ble_eq_true rfl) rfl dX5_both_5 (fun H locs hw => ?_)
  refine lv_if_eq (tgt := 22) hx hb dX5_both_8 (by decide) (fun c3 => ?_) (fun c3 => ?_)
  · rw [if_pos c3] at h11
    refine lv_iconst (v := (-1)) hx hb dX5_both_22 (by decide) ?_
    obtain rfl := inj1 h11
    exact hret _ _ _ _ hw dX5_both_23
  · rw [if_neg c3] at h11
    refine lv_aload_n hx hb dX5_both_11 rfl (lv_at hl 0 rfl) ?_
    refine g_get F inG5 hw 0 rfl rfl 0 (by decide) t_185 (fun _ h9 => h9) rfl dX5_both_12 ?_
    refine lv_iload_n hx hb dX5_both_15 rfl (lv_at hl 2 rfl) ?_
    obtain ⟨r4, k5, h12⟩ := ob1 h11
    clear h11
    refine g_vi F (cX4_isOne_ok l d cy nw0 nw1 nw2 ng0 ng1 ng2 ng3 nw_people nw_fewest nw_kinds nw_loves ng_many ng_sets ng_chalk ng_wet ng_harvest ng_draw i2 r4 k5) cal_X4_isOne t_233 rfl ⟨by decide, by decide⟩ hw (w' := List.flatten [wX cy xx0 nw0 ps0 kp0 kq0 tr0 tp0 hs0 xx_isKept, wT cy nw0 nw1 nw2 ng0 nw_people nw_fewest nw_kinds nw_loves, wG cy ng0 ng1 ng2 ng3 ng_many ng_sets ng_chalk ng_wet ng_harvest ng_draw]) (SCut.cut (SCut.skip (SCut.take SCut.rf (SCut.take SCut.rf SCut.none)))) 0 4 rfl rfl hl.1 (Nat.le_of_ble_eq_true rfl) rfl dX5_both_16 (fun H locs hw => ?_)
    refine lv_if_ne (tgt := 24) hx hb dX5_both_19 (by decide) (fun c6 => ?_) (fun c6 => ?_)
    · rw [if_neg c6] at h12
      refine lv_aload_n hx hb dX5_both_24 rfl (lv_at hl 0 rfl) ?_
      refine g_get F inG5 hw 0 rfl rfl 0 (by decide) t_185 (fun _ h9 => h9) rfl dX5_both_25 ?_
      refine g_get F inG4 hw 1 rfl rfl 4 (by decide) t_116 (fun _ h9 => h9) rfl dX5_both_28 ?_
      refine g_get F inG0 hw 4 rfl rfl 1 (by decide) t_74 (fun _ h9 => h9) rfl dX5_both_31 ?_
      refine lv_iload_n hx hb dX5_both_34 rfl (lv_at hl 1 rfl) ?_
      obtain ⟨j7, k8, h13⟩ := ob1 h12
      clear h12
      refine g_iald F hw 6 rfl k8 dX5_both_35 ?_
      refine lv_aload_n hx hb dX5_both_36 rfl (lv_at hl 0 rfl) ?_
      refine g_get F inG5 hw 0 rfl rfl 0 (by decide) t_185 (fun _ h9 => h9) rfl dX5_both_37 ?_
      refine g_get F inG4 hw 1 rfl rfl 4 (by decide) t_116 (fun _ h9 => h9) rfl dX5_both_40 ?_
      refine g_get F inG0 hw 4 rfl rfl 1 (by decide) t_74 (fun _ h9 => h9) rfl dX5_both_43 ?_
      refine lv_iload_n hx hb dX5_both_46 rfl (lv_at hl 2 rfl) ?_
      obtain ⟨j9, k10, h14⟩ := ob1 h13
      clear h13
      refine g_iald F hw 6 rfl k10 dX5_both_47 ?_
      refine lv_iand hx hb dX5_both_48 ?_
      obtain rfl := inj1 h14
      exact hret _ _ _ _ hw dX5_both_49
    · rw [if_pos c6] at h12
      refine lv_iconst (v := (-1)) hx hb dX5_both_22 (by decide) ?_
      obtain rfl := inj1 h12
      exact hret _ _ _ _ hw dX5_both_23
theorem cal_X5_hands : CalV yX5_hands cX5_hands 4 (some .int) RX5 1 := ⟨t_633, t_631, t_632, t_37, by decide +kernel⟩
set_option maxHeartbeats 4000000 in
set_option maxRecDepth 100000 in
theorem cX5_hands_ok (l : Launch) (d : va_G) (cy : Nat → ClassId) (xx0 nw0 nw1 nw2 ng0 ng1 ng2 ng3 ps0 kp0 kq0 tr0 tp0 hs0 : Nat) (xx_isKept : Int32) (nw_people : Int32) (nw_fewest : Int32) (nw_kinds : Nat → Int32) (nw_loves : Nat → Int32) (ng_many : Nat → Int32) (ng_sets : Nat → Int32) (ng_chalk : Nat → Int32) (ng_wet : Int32) (ng_harvest : Int32) (ng_draw : Int32) (i1 : Int32) (r : Int32) (h0 : fX5_hands nw_people ng_sets i1 = some (r)) : CI l yX5_hands cX5_hands 4 (some .int) 2 42 d cy [.ref xx0, .int i1] (List.flatten [wX cy xx0 nw0 ps0 kp0 kq0 tr0 tp0 hs0 xx_isKept, wT cy nw0 nw1 nw2 ng0 nw_people nw_fewest nw_kinds nw_loves, wG cy ng0 ng1 ng2 ng3 ng_many ng_sets ng_chalk ng_wet ng_harvest ng_draw]) (List.flatten [wX cy xx0 nw0 ps0 kp0 kq0 tr0 tp0 hs0 xx_isKept, wT cy nw0 nw1 nw2 ng0 nw_people nw_fewest nw_kinds nw_loves, wG cy ng0 ng1 ng2 ng3 ng_many ng_sets ng_chalk ng_wet ng_harvest ng_draw]) r := by
  refine CI.of (by decide) (Nat.le_of_ble_eq_true rfl) ?_
  intro p e s m args below meth c A ls Q F hret hw hl
  have hx := F.1
  have hb := F.2.1
  have hl : lv_has ls 4 [(0, .ref xx0), (1, .int i1)] := hl
  rw [fX5_hands] at h0
  refine lv_iload_n hx hb dX5_hands_0 rfl (lv_at hl 1 rfl) ?_
  obtain ⟨r1, k2, h39⟩ := ob1 h0
  clear h0
  refine g_si F (cX5_isHalf_ok l d cy i1 r1 k2) cal_X5_isHalf t_275 rfl ⟨by decide, by decide⟩ hw (w' := List.flatten [wX cy xx0 nw0 ps0 kp0 kq0 tr0 tp0 hs0 xx_isKept, wT cy nw0 nw1 nw2 ng0 nw_people nw_fewest nw_kinds nw_loves, wG cy ng0 ng1 ng2 ng3 ng_many ng_sets ng_chalk ng_wet ng_harvest ng_draw]) Cut.nil hl.1 (Nat.le_of_ble_eq_true rfl) rfl dX5_hands_1 (fun H locs hw => ?_)
  refine lv_if_ne (tgt := 9) hx hb dX5_hands_4 (by decide) (fun c3 => ?_) (fun c3 => ?_)
  · rw [if_neg c3] at h39
    refine lv_iconst (v := 0) hx hb dX5_hands_9 (by decide) ?_
    refine lv_istore_n (lv' := [(2, .int 0), (0, .ref xx0), (1, .int i1)]) hx hb dX5_hands_10 rfl hl (by decide) rfl (fun ls hl => ?_)
    refine lv_iconst (v := 0) hx hb dX5_hands_11 (by decide) ?_
    refine lv_istore_n (lv' := [(3, .int 0), (2, .int 0), (0, .ref xx0), (1, .int i1)]) hx hb dX5_hands_12 rfl hl (by decide) rfl (fun ls hl => ?_)
    obtain ⟨o29, h40, h41⟩ := ob1 h39
    clear h39
    have kont26 : ∀ (H : Heap) (locs : List Loc) (ls : Array Slot), Wd d A s.heap (List.flatten [wX cy xx0 nw0 ps0 kp0 kq0 tr0 tp0 hs0 xx_isKept, wT cy nw0 nw1 nw2 ng0 nw_people nw_fewest nw_kinds nw_loves, wG cy ng0 ng1 ng2 ng3 ng_many ng_sets ng_chalk ng_wet ng_harvest ng_draw]) H locs → lv_has ls 4 [(2, .int o29)] → W p l e (rmo 2 42) s m args below meth c H locs 0 0 Q (F0 m 55 ls []) := by
      intro H locs ls hw hl
      clear h40
      refine lv_iload_n hx hb dX5_hands_55 rfl (lv_at hl 0 rfl) ?_
      obtain rfl := inj1 h41
      exact hret _ _ _ _ hw dX5_hands_56
    clear h41
    have loop28 : ∀ (n : Nat) (v24 : Int32) (v25 : Int32) (H : Heap) (locs : List Loc) (ls : Array Slot), Wd d A s.heap (List.flatten [wX cy xx0 nw0 ps0 kp0 kq0 tr0 tp0 hs0 xx_isKept, wT cy nw0 nw1 nw2 ng0 nw_people nw_fewest nw_kinds nw_loves, wG cy ng0 ng1 ng2 ng3 ng_many ng_sets ng_chalk ng_wet ng_harvest ng_draw]) H locs → lv_has ls 4 [(0, .ref xx0), (1, .int i1), (2, .int v24), (3, .int v25)] → fX5_hands_L13 i1 ng_sets nw_people n v24 v25 = some (o29) → W p l e (rmo 2 42) s m args below meth c H locs 0 0 Q (F0 m 13 ls []) := by
      intro n
      induction n with
      | zero =>
        intro v24 v25 H locs ls hw hl h42
        rw [fX5_hands_L13] at h42
        cases h42
      | succ n ih27 =>
        intro v24 v25 H locs ls hw hl h43
        rw [fX5_hands_L13] at h43
        refine lv_iload_n hx hb dX5_hands_13 rfl (lv_at hl 3 rfl) ?_
        refine lv_aload_n hx hb dX5_hands_14 rfl (lv_at hl 0 rfl) ?_
        refine g_get F inG5 hw 0 rfl rfl 0 (by decide) t_185 (fun _ h9 => h9) rfl dX5_hands_15 ?_
        refine g_get F inG4 hw 1 rfl rfl 0 (by decide) t_105 (fun _ h9 => h9) rfl dX5_hands_18 ?_
        refine lv_icmp_ge (tgt := 55) hx hb dX5_hands_21 (by decide) (fun c30 => ?_) (fun c30 => ?_)
        · rw [if_pos c30] at h43
          obtain rfl := inj1 h43
          exact kont26 _ _ _ hw (lv_sub hl [2] rfl)
        · rw [if_neg c30] at h43
          refine lv_aload_n hx hb dX5_hands_24 rfl (lv_at hl 0 rfl) ?_
          refine g_get F inG5 hw 0 rfl rfl 0 (by decide) t_185 (fun _ h9 => h9) rfl dX5_hands_25 ?_
          refine g_get F inG4 hw 1 rfl rfl 4 (by decide) t_116 (fun _ h9 => h9) rfl dX5_hands_28 ?_
          refine g_get F inG0 hw 4 rfl rfl 1 (by decide) t_74 (fun _ h9 => h9) rfl dX5_hands_31 ?_
          refine lv_iload_n hx hb dX5_hands_34 rfl (lv_at hl 3 rfl) ?_
          obtain ⟨j31, k32, h44⟩ := ob1 h43
          clear h43
          refine g_iald F hw 6 rfl k32 dX5_hands_35 ?_
          refine lv_iload_n hx hb dX5_hands_36 rfl (lv_at hl 1 rfl) ?_
          obtain ⟨r33, k34, h45⟩ := ob1 h44
          clear h44
          refine g_si F (cX5_isIn_ok l d cy (ng_sets j31) i1 r33 k34) cal_X5_isIn t_268 rfl ⟨by decide, by decide⟩ hw (w' := List.flatten [wX cy xx0 nw0 ps0 kp0 kq0 tr0 tp0 hs0 xx_isKept, wT cy nw0 nw1 nw2 ng0 nw_people nw_fewest nw_kinds nw_loves, wG cy ng0 ng1 ng2 ng3 ng_many ng_sets ng_chalk ng_wet ng_harvest ng_draw]) Cut.nil hl.1 (Nat.le_of_ble_eq_true rfl) rfl dX5_hands_37 (fun H locs hw => ?_)
          obtain ⟨x36, h46, h47⟩ := ob1 h45
          clear h45
          have kont37 : ∀ (H : Heap) (locs : List Loc) (ls : Array Slot), Wd d A s.heap (List.flatten [wX cy xx0 nw0 ps0 kp0 kq0 tr0 tp0 hs0 xx_isKept, wT cy nw0 nw1 nw2 ng0 nw_people nw_fewest nw_kinds nw_loves, wG cy ng0 ng1 ng2 ng3 ng_many ng_sets ng_chalk ng_wet ng_harvest ng_draw]) H locs → lv_has ls 4 [(0, .ref xx0), (1, .int i1), (2, .int x36), (3, .int v25)] → W p l e (rmo 2 42) s m args below meth c H locs 0 0 Q (F0 m 49 ls []) := by
            intro H locs ls hw hl
            clear h46
            refine lv_iinc (v := (v25 + 1)) (lv' := [(3, .int (v25 + 1)), (0, .ref xx0), (1, .int i1), (2, .int x36)]) hx hb dX5_hands_49 hl (k := 3) rfl rfl (by decide) rfl (fun ls hl => ?_)
            refine lv_goto (tgt := 13) hx hb dX5_hands_52 (by decide) ?_
            exact ih27 x36 (v25 + 1) _ _ _ hw (lv_sub hl [1, 2, 3, 0] rfl) h47
          clear h47
          refine lv_if_ne (tgt := 49) hx hb dX5_hands_40 (by decide) (fun c38 => ?_) (fun c38 => ?_)
          · rw [if_neg c38] at h46
            obtain rfl := inj1 h46
            exact kont37 _ _ _ hw (lv_sub hl [0, 1, 2, 3] rfl)
          · rw [if_pos c38] at h46
            refine lv_iload_n hx hb dX5_hands_43 rfl (lv_at hl 2 rfl) ?_
            refine lv_iconst (v := 1) hx hb dX5_hands_44 (by decide) ?_
            refine lv_iload_n hx hb dX5_hands_45 rfl (lv_at hl 3 rfl) ?_
            refine lv_ishl hx hb dX5_hands_46 ?_
            refine lv_ior hx hb dX5_hands_47 ?_
            refine lv_istore_n (lv' := [(2, .int (v24 ||| ((1 : Int32) <<< (v25 &&& 31)))), (0, .ref xx0), (1, .int i1), (3, .int v25)]) hx hb dX5_hands_48 rfl hl (by decide) rfl (fun ls hl => ?_)
            obtain rfl := inj1 h46
            exact kont37 _ _ _ hw (lv_sub hl [1, 2, 0, 3] rfl)
    exact loop28 fl 0 0 _ _ _ hw (lv_sub hl [2, 3, 1, 0] rfl) h40
  · rw [if_pos c3] at h39
    refine lv_iconst (v := (-1)) hx hb dX5_hands_7 (by decide) ?_
    obtain rfl := inj1 h39
    exact hret _ _ _ _ hw dX5_hands_8
