theorem t_0 : (Cond.selects "SundayMarket" yX5_kindsTold yX5_kindsTold) ∈ gtbl := wd 0 (by decide +kernel) (by decide +kernel)
theorem t_1 : (Cond.selects "SundayMarket" yX5_isAsTold yX5_isAsTold) ∈ gtbl := wd 1 (by decide +kernel) (by decide +kernel)
theorem t_2 : (Cond.selects "SundayMarket" yX5_lovesTold yX5_lovesTold) ∈ gtbl := wd 2 (by decide +kernel) (by decide +kernel)
theorem t_172 : (Cond.fieldLink "SundayMarket" 265 "SundayMarket$Sheet" "items" "[J") ∈ gtbl := wd 172 (by decide +kernel) (by decide +kernel)
theorem t_174 : (Cond.fieldLink "SundayMarket" 256 "SundayMarket$Sheet" "lane" "I") ∈ gtbl := wd 174 (by decide +kernel) (by decide +kernel)
theorem t_176 : (Cond.fieldLink "SundayMarket" 259 "SundayMarket$Sheet" "size" "I") ∈ gtbl := wd 176 (by decide +kernel) (by decide +kernel)
theorem t_187 : (Cond.fieldLink "SundayMarket" 23 "SundayMarket" "kept" "LSundayMarket$Town;") ∈ gtbl := wd 187 (by decide +kernel) (by decide +kernel)
theorem t_188 : (Cond.fieldLink "SundayMarket" 26 "SundayMarket" "keptPast" "LSundayMarket$Past;") ∈ gtbl := wd 188 (by decide +kernel) (by decide +kernel)
theorem t_189 : (Cond.fieldLink "SundayMarket" 29 "SundayMarket" "isKept" "Z") ∈ gtbl := wd 189 (by decide +kernel) (by decide +kernel)
theorem t_192 : (Cond.fieldLink "SundayMarket" 45 "SundayMarket" "sheets" "[LSundayMarket$Sheet;") ∈ gtbl := wd 192 (by decide +kernel) (by decide +kernel)
theorem t_635 : (Cond.instanceMethod yX5_rain) ∈ gtbl := wd 635 (by decide +kernel) (by decide +kernel)
theorem t_636 : (Cond.selects "SundayMarket" yX5_rain yX5_rain) ∈ gtbl := wd 636 (by decide +kernel) (by decide +kernel)
theorem t_637 : (Cond.code yX5_rain prog_1_method_28_code 8 (some .int)) ∈ gtbl := wd 637 (by decide +kernel) (by decide +kernel)
theorem t_638 : (Cond.methodLink "SundayMarket" 215 yX4_weightOfRain) ∈ gtbl := wd 638 (by decide +kernel) (by decide +kernel)
theorem t_645 : (Cond.methodLink "SundayMarket" 218 yX5_power) ∈ gtbl := wd 645 (by decide +kernel) (by decide +kernel)
theorem t_646 : (Cond.methodLink "SundayMarket" 221 yX5_greatestDivisor) ∈ gtbl := wd 646 (by decide +kernel) (by decide +kernel)
theorem t_649 : (Cond.methodLink "SundayMarket" 224 yJ9_max_7cf53) ∈ gtbl := wd 649 (by decide +kernel) (by decide +kernel)
theorem t_651 : (Cond.instanceMethod yX5_image) ∈ gtbl := wd 651 (by decide +kernel) (by decide +kernel)
theorem t_652 : (Cond.selects "SundayMarket" yX5_image yX5_image) ∈ gtbl := wd 652 (by decide +kernel) (by decide +kernel)
theorem t_653 : (Cond.code yX5_image prog_1_method_29_code 1 (some .int)) ∈ gtbl := wd 653 (by decide +kernel) (by decide +kernel)
theorem t_654 : (Cond.methodLink "SundayMarket" 229 yX1_copyPast) ∈ gtbl := wd 654 (by decide +kernel) (by decide +kernel)
theorem t_659 : (Cond.instanceMethod yX5_restore) ∈ gtbl := wd 659 (by decide +kernel) (by decide +kernel)
theorem t_660 : (Cond.selects "SundayMarket" yX5_restore yX5_restore) ∈ gtbl := wd 660 (by decide +kernel) (by decide +kernel)
theorem t_661 : (Cond.code yX5_restore prog_1_method_30_code 1 (some .int)) ∈ gtbl := wd 661 (by decide +kernel) (by decide +kernel)
theorem t_663 : (Cond.instanceMethod yX5_told) ∈ gtbl := wd 663 (by decide +kernel) (by decide +kernel)
theorem t_664 : (Cond.selects "SundayMarket" yX5_told yX5_told) ∈ gtbl := wd 664 (by decide +kernel) (by decide +kernel)
theorem t_665 : (Cond.code yX5_told prog_1_method_31_code 9 (some .int)) ∈ gtbl := wd 665 (by decide +kernel) (by decide +kernel)
theorem t_666 : (Cond.methodLink "SundayMarket" 233 yX5_isSheet) ∈ gtbl := wd 666 (by decide +kernel) (by decide +kernel)
theorem t_669 : (Cond.methodLink "SundayMarket" 236 yX5_isLane) ∈ gtbl := wd 669 (by decide +kernel) (by decide +kernel)
theorem t_672 : (Cond.methodLink "SundayMarket" 239 yX2_troubleOf) ∈ gtbl := wd 672 (by decide +kernel) (by decide +kernel)
theorem t_680 : (Cond.methodLink "SundayMarket" 242 yX5_kindsTold) ∈ gtbl := wd 680 (by decide +kernel) (by decide +kernel)
theorem t_682 : (Cond.instanceMethod yX5_kindsTold) ∈ gtbl := wd 682 (by decide +kernel) (by decide +kernel)
theorem t_683 : (Cond.code yX5_kindsTold prog_1_method_37_code 8 (some .int)) ∈ gtbl := wd 683 (by decide +kernel) (by decide +kernel)
theorem t_684 : (Cond.methodLink "SundayMarket" 275 yX4_lovedSet) ∈ gtbl := wd 684 (by decide +kernel) (by decide +kernel)
theorem t_685 : (Cond.methodLink "SundayMarket" 278 yX5_isAsTold) ∈ gtbl := wd 685 (by decide +kernel) (by decide +kernel)
theorem t_687 : (Cond.instanceMethod yX5_isAsTold) ∈ gtbl := wd 687 (by decide +kernel) (by decide +kernel)
theorem t_688 : (Cond.code yX5_isAsTold prog_1_method_39_code 10 (some .boolean)) ∈ gtbl := wd 688 (by decide +kernel) (by decide +kernel)
theorem t_689 : (Cond.methodLink "SundayMarket" 282 yX5_worthByKind) ∈ gtbl := wd 689 (by decide +kernel) (by decide +kernel)
theorem t_690 : (Cond.methodLink "SundayMarket" 246 yX5_lovesTold) ∈ gtbl := wd 690 (by decide +kernel) (by decide +kernel)
theorem t_692 : (Cond.instanceMethod yX5_lovesTold) ∈ gtbl := wd 692 (by decide +kernel) (by decide +kernel)
theorem t_693 : (Cond.code yX5_lovesTold prog_1_method_38_code 7 (some .int)) ∈ gtbl := wd 693 (by decide +kernel) (by decide +kernel)
theorem t_695 : (Cond.instanceMethod yX5_film) ∈ gtbl := wd 695 (by decide +kernel) (by decide +kernel)
theorem t_696 : (Cond.selects "SundayMarket" yX5_film yX5_film) ∈ gtbl := wd 696 (by decide +kernel) (by decide +kernel)
theorem t_697 : (Cond.code yX5_film prog_1_method_32_code 8 (some .int)) ∈ gtbl := wd 697 (by decide +kernel) (by decide +kernel)
theorem t_698 : (Cond.methodLink "SundayMarket" 249 yX2_put) ∈ gtbl := wd 698 (by decide +kernel) (by decide +kernel)
theorem t_703 : (Cond.instanceMethod yX5_sheet) ∈ gtbl := wd 703 (by decide +kernel) (by decide +kernel)
theorem t_704 : (Cond.selects "SundayMarket" yX5_sheet yX5_sheet) ∈ gtbl := wd 704 (by decide +kernel) (by decide +kernel)
theorem t_705 : (Cond.code yX5_sheet prog_1_method_33_code 4 (some .int)) ∈ gtbl := wd 705 (by decide +kernel) (by decide +kernel)
theorem t_706 : (Cond.methodLink "SundayMarket" 252 yX2_begin) ∈ gtbl := wd 706 (by decide +kernel) (by decide +kernel)
theorem t_711 : (Cond.instanceMethod yX5_drop) ∈ gtbl := wd 711 (by decide +kernel) (by decide +kernel)
theorem t_712 : (Cond.selects "SundayMarket" yX5_drop yX5_drop) ∈ gtbl := wd 712 (by decide +kernel) (by decide +kernel)
theorem t_713 : (Cond.code yX5_drop prog_1_method_34_code 3 (some .int)) ∈ gtbl := wd 713 (by decide +kernel) (by decide +kernel)
theorem t_715 : (Cond.instanceMethod yX5_item) ∈ gtbl := wd 715 (by decide +kernel) (by decide +kernel)
theorem t_716 : (Cond.selects "SundayMarket" yX5_item yX5_item) ∈ gtbl := wd 716 (by decide +kernel) (by decide +kernel)
theorem t_717 : (Cond.code yX5_item prog_1_method_35_code 7 (some .int)) ∈ gtbl := wd 717 (by decide +kernel) (by decide +kernel)
theorem t_719 : (Cond.instanceMethod yX5_copy) ∈ gtbl := wd 719 (by decide +kernel) (by decide +kernel)
theorem t_720 : (Cond.selects "SundayMarket" yX5_copy yX5_copy) ∈ gtbl := wd 720 (by decide +kernel) (by decide +kernel)
theorem t_721 : (Cond.code yX5_copy prog_1_method_36_code 8 (some .int)) ∈ gtbl := wd 721 (by decide +kernel) (by decide +kernel)
theorem t_722 : (Cond.methodLink "SundayMarket" 262 yX2_hasRoom) ∈ gtbl := wd 722 (by decide +kernel) (by decide +kernel)
theorem t_723 : (Cond.methodLink "SundayMarket" 269 arraycopyName) ∈ gtbl := wd 723 (by decide +kernel) (by decide +kernel)
def fX5_rain (nw_people : Int32) (nw_kinds : Nat → Int32) (nw_loves : Nat → Int32) (ng_sets : Nat → Int32) (ng_wet : Int32) (ng_harvest : Int32) (i1 : Int32) (i2 : Int32) (i3 : Int32) (i4 : Int32) : Option (Int32) :=
  bd1 (fX4_isOne nw_people i1) fun r1 =>
  if r1 = 0 then
    some ((-1))
  else
    bd1 (fX5_isWithin i2 0 300) fun r4 =>
    if r4 = 0 then
      some ((-1))
    else
      bd1 (fX5_isWithin i3 0 10) fun r7 =>
      if r7 = 0 then
        some ((-1))
      else
        bd1 (fX5_isFlag i4) fun r10 =>
        if r10 = 0 then
          some ((-1))
        else
          bd1 (fX4_weightOfRain nw_kinds nw_loves ng_sets ng_wet ng_harvest i1 i2 i3) fun r13 =>
          bd1 (fJ6_bitCount_0f7a4 (63 &&& (ng_wet ^^^ (-1)))) fun r15 =>
          bd1 (fX5_power 10 r15) fun r17 =>
          bd1 (fX5_greatestDivisor r17 r13) fun r19 =>
          if i4 = 0 then
            bd0 (nz (if 1 < r19 then r19 else 1)) <|
            some ((r13 / (if 1 < r19 then r19 else 1)))
          else
            bd0 (nz (if 1 < r19 then r19 else 1)) <|
            some ((r17 / (if 1 < r19 then r19 else 1)))
def fX5_image (nw_people : Int32) (nw_fewest : Int32) (nw_kinds : Nat → Int32) (nw_loves : Nat → Int32) (ng_many : Nat → Int32) (ng_sets : Nat → Int32) (ng_chalk : Nat → Int32) (ng_wet : Int32) (ng_harvest : Int32) (ng_draw : Int32) (ps_known : Int32) (ps_many : Nat → Nat → Int32) (ps_sets : Nat → Nat → Int32) (ps_chalk : Nat → Nat → Int32) (ps_wet : Nat → Int32) (ps_harvest : Nat → Int32) (ps_draw : Nat → Int32) (kp_kinds : Nat → Int32) (kp_loves : Nat → Int32) (kg_many : Nat → Int32) (kg_sets : Nat → Int32) (kg_chalk : Nat → Int32) (kq_many : Nat → Nat → Int32) (kq_sets : Nat → Nat → Int32) (kq_chalk : Nat → Nat → Int32) (kq_wet : Nat → Int32) (kq_harvest : Nat → Int32) (kq_draw : Nat → Int32) : Option (Int32 × Int32 × Int32 × Int32 × (Nat → Int32) × (Nat → Int32) × (Nat → Int32) × (Nat → Int32) × (Nat → Int32) × Int32 × Int32 × Int32 × Int32 × (Nat → Nat → Int32) × (Nat → Nat → Int32) × (Nat → Nat → Int32) × (Nat → Int32) × (Nat → Int32) × (Nat → Int32)) :=
  bd10 (fX4_copyTown kp_kinds kp_loves kg_many kg_sets kg_chalk nw_people nw_fewest nw_kinds nw_loves ng_many ng_sets ng_chalk ng_wet ng_harvest ng_draw) fun x1 x2 f3 f4 f5 f6 f7 x8 x9 x10 =>
  bd7 (fX1_copyPast kq_many kq_sets kq_chalk kq_wet kq_harvest kq_draw ps_known ps_many ps_sets ps_chalk ps_wet ps_harvest ps_draw) fun x12 f13 f14 f15 f16 f17 f18 =>
  some (1, 1, x1, x2, f3, f4, f5, f6, f7, x8, x9, x10, x12, f13, f14, f15, f16, f17, f18)
def fX5_restore (xx_isKept : Int32) (nw_people : Int32) (nw_fewest : Int32) (nw_kinds : Nat → Int32) (nw_loves : Nat → Int32) (ng_many : Nat → Int32) (ng_sets : Nat → Int32) (ng_chalk : Nat → Int32) (ng_wet : Int32) (ng_harvest : Int32) (ng_draw : Int32) (ps_known : Int32) (ps_many : Nat → Nat → Int32) (ps_sets : Nat → Nat → Int32) (ps_chalk : Nat → Nat → Int32) (ps_wet : Nat → Int32) (ps_harvest : Nat → Int32) (ps_draw : Nat → Int32) (kp_people : Int32) (kp_fewest : Int32) (kp_kinds : Nat → Int32) (kp_loves : Nat → Int32) (kg_many : Nat → Int32) (kg_sets : Nat → Int32) (kg_chalk : Nat → Int32) (kg_wet : Int32) (kg_harvest : Int32) (kg_draw : Int32) (kq_known : Int32) (kq_many : Nat → Nat → Int32) (kq_sets : Nat → Nat → Int32) (kq_chalk : Nat → Nat → Int32) (kq_wet : Nat → Int32) (kq_harvest : Nat → Int32) (kq_draw : Nat → Int32) : Option (Int32 × Int32 × Int32 × (Nat → Int32) × (Nat → Int32) × (Nat → Int32) × (Nat → Int32) × (Nat → Int32) × Int32 × Int32 × Int32 × Int32 × (Nat → Nat → Int32) × (Nat → Nat → Int32) × (Nat → Nat → Int32) × (Nat → Int32) × (Nat → Int32) × (Nat → Int32)) :=
  if xx_isKept = 0 then
    some ((-4), nw_people, nw_fewest, nw_kinds, nw_loves, ng_many, ng_sets, ng_chalk, ng_wet, ng_harvest, ng_draw, ps_known, ps_many, ps_sets, ps_chalk, ps_wet, ps_harvest, ps_draw)
  else
    bd10 (fX4_copyTown nw_kinds nw_loves ng_many ng_sets ng_chalk kp_people kp_fewest kp_kinds kp_loves kg_many kg_sets kg_chalk kg_wet kg_harvest kg_draw) fun x2 x3 f4 f5 f6 f7 f8 x9 x10 x11 =>
    bd7 (fX1_copyPast ps_many ps_sets ps_chalk ps_wet ps_harvest ps_draw kq_known kq_many kq_sets kq_chalk kq_wet kq_harvest kq_draw) fun x13 f14 f15 f16 f17 f18 f19 =>
    some (1, x2, x3, f4, f5, f6, f7, f8, x9, x10, x11, x13, f14, f15, f16, f17, f18, f19)
def fX5_isAsTold_L12 (i1 : Int32) (i2 : Int32) (i3 : Int32) (i5 : Int32) (i6 : Int32) (ng_harvest : Int32) (ng_sets : Nat → Int32) (ng_wet : Int32) (sh_items : Nat → Int64) : Nat → Int32 → Option ((Int32) ⊕ (Unit))
  | 0, _ => none
  | n + 1, v18 =>
    if i6 ≤ v18 then
      some (Sum.inr ())
    else
      bd1 (ix i1 6) fun j23 =>
      bd1 (fX5_worthByKind i2 v18 (ng_sets j23) i3 ng_wet ng_harvest) fun r25 =>
      bd1 (ix (i5 + v18) 24) fun j27 =>
      if (lg_cmp (sh_items j27) (Int32.toInt64 r25)) = 0 then
        fX5_isAsTold_L12 i1 i2 i3 i5 i6 ng_harvest ng_sets ng_wet sh_items n (v18 + 1)
      else
        some (Sum.inl (0))
def fX5_isAsTold (ng_sets : Nat → Int32) (ng_wet : Int32) (ng_harvest : Int32) (sh_items : Nat → Int64) (i1 : Int32) (i2 : Int32) (i3 : Int32) (i5 : Int32) (i6 : Int32) : Option (Int32) :=
  bd1 (fX5_isAsTold_L12 i1 i2 i3 i5 i6 ng_harvest ng_sets ng_wet sh_items fl 0) fun zz =>
  Sum.elim (fun ww => some ww) (fun oo => some (1)) zz
def fX5_kindsTold_L25 (i1 : Int32) (i3 : Int32) (i4 : Int32) (ng_harvest : Int32) (ng_sets : Nat → Int32) (ng_wet : Int32) (sh_items : Nat → Int64) (r3 : Int32) : Nat → Int32 → Int32 → Option (Int32)
  | 0, _, _ => none
  | n + 1, v21, v22 =>
    if 5 ≤ v22 then
      some (v21)
    else
      bd1 (fX5_isAsTold ng_sets ng_wet ng_harvest sh_items i1 v22 r3 i3 i4) fun r28 =>
      bd1 (if r28 = 0 then
          some (v21)
        else
          some ((v21 ||| ((1 : Int32) <<< (v22 &&& 31))))
        : Option Int32) fun x31 =>
      fX5_kindsTold_L25 i1 i3 i4 ng_harvest ng_sets ng_wet sh_items r3 n x31 (v22 + 1)
def fX5_kindsTold (nw_loves : Nat → Int32) (ng_sets : Nat → Int32) (ng_wet : Int32) (ng_harvest : Int32) (sh_items : Nat → Int64) (i1 : Int32) (i3 : Int32) (i4 : Int32) : Option (Int32) :=
  bd1 (ix i1 6) fun j1 =>
  bd1 (fX4_lovedSet ng_sets i1 (nw_loves j1)) fun r3 =>
  bd1 (fX5_kindsTold_L25 i1 i3 i4 ng_harvest ng_sets ng_wet sh_items r3 fl 0 0) fun o26 =>
  some (o26)
def fX5_lovesTold_L6 (i1 : Int32) (i3 : Int32) (i4 : Int32) (ng_harvest : Int32) (ng_sets : Nat → Int32) (ng_wet : Int32) (nw_kinds : Nat → Int32) (nw_people : Int32) (sh_items : Nat → Int64) : Nat → Int32 → Int32 → Option (Int32)
  | 0, _, _ => none
  | n + 1, v25, v26 =>
    if nw_people ≤ v26 then
      some (v25)
    else
      bd1 (ix i1 6) fun j32 =>
      bd1 (fX4_lovedSet ng_sets i1 v26) fun r34 =>
      bd1 (fX5_isAsTold ng_sets ng_wet ng_harvest sh_items i1 (nw_kinds j32) r34 i3 i4) fun r36 =>
      bd1 (if r36 = 0 then
          some (v25)
        else
          some ((v25 ||| ((1 : Int32) <<< (v26 &&& 31))))
        : Option Int32) fun x39 =>
      fX5_lovesTold_L6 i1 i3 i4 ng_harvest ng_sets ng_wet nw_kinds nw_people sh_items n x39 (v26 + 1)
def fX5_lovesTold (nw_people : Int32) (nw_kinds : Nat → Int32) (ng_sets : Nat → Int32) (ng_wet : Int32) (ng_harvest : Int32) (sh_items : Nat → Int64) (i1 : Int32) (i3 : Int32) (i4 : Int32) : Option (Int32) :=
  bd1 (fX5_lovesTold_L6 i1 i3 i4 ng_harvest ng_sets ng_wet nw_kinds nw_people sh_items fl 0 0) fun o30 =>
  some (o30)
def fX5_told (nw_people : Int32) (nw_kinds : Nat → Int32) (nw_loves : Nat → Int32) (ng_sets : Nat → Int32) (ng_wet : Int32) (ng_harvest : Int32) (hs_items : Nat → Nat → Int64) (hs_lane : Nat → Int32) (hs_size : Nat → Int32) (i1 : Int32) (i2 : Int32) (i3 : Int32) (i4 : Int32) (i5 : Int32) (i6 : Int32) : Option (Int32) :=
  bd1 (fX4_isOne nw_people i1) fun r1 =>
  if r1 = 0 then
    some ((-1))
  else
    bd1 (fX5_isSheet i2) fun r4 =>
    if r4 = 0 then
      some ((-1))
    else
      bd1 (fX5_isLane i3) fun r7 =>
      if r7 = 0 then
        some ((-1))
      else
        bd1 (fX5_isWithin i5 1 12) fun r10 =>
        if r10 = 0 then
          some ((-1))
        else
          bd1 (fX5_isFlag i6) fun r13 =>
          if r13 = 0 then
            some ((-1))
          else
            bd1 (ix i2 4) fun j16 =>
            bd1 (fX2_troubleOf (hs_lane j16) (hs_size j16) i3 i4 i5) fun r18 =>
            if r18 = 0 then
              if i6 = 0 then
                bd1 (fX5_kindsTold nw_loves ng_sets ng_wet ng_harvest (hs_items j16) i1 i4 i5) fun r24 =>
                some (r24)
              else
                bd1 (fX5_lovesTold nw_people nw_kinds ng_sets ng_wet ng_harvest (hs_items j16) i1 i4 i5) fun r22 =>
                some (r22)
            else
              some (r18)
def fX5_film_L65 (hs_lane : Nat → Int32) (i1 : Int32) (i2 : Int32) (i3 : Int32) (i5 : Int32) (ng_harvest : Int32) (ng_sets : Nat → Int32) (ng_wet : Int32) (nw_kinds : Nat → Int32) (nw_loves : Nat → Int32) : Nat → Int32 → (Nat → Nat → Int64) → Option ((Nat → Nat → Int64))
  | 0, _, _ => none
  | n + 1, v34, g35 =>
    if i2 ≤ v34 then
      some (g35)
    else
      bd1 (ix i3 4) fun j41 =>
      bd1 (fX4_worthOfHalf nw_kinds nw_loves ng_sets ng_wet ng_harvest i1 v34) fun r43 =>
      bd1 (fX2_put (g35 j41) (hs_lane j41) (i5 + v34) (Int32.toInt64 r43)) fun f45 =>
      fX5_film_L65 hs_lane i1 i2 i3 i5 ng_harvest ng_sets ng_wet nw_kinds nw_loves n (v34 + 1) (va_up g35 j41 f45)
def fX5_film (nw_people : Int32) (nw_kinds : Nat → Int32) (nw_loves : Nat → Int32) (ng_sets : Nat → Int32) (ng_wet : Int32) (ng_harvest : Int32) (hs_items : Nat → Nat → Int64) (hs_lane : Nat → Int32) (hs_size : Nat → Int32) (i1 : Int32) (i2 : Int32) (i3 : Int32) (i4 : Int32) (i5 : Int32) : Option (Int32 × (Nat → Nat → Int64)) :=
  bd1 (fX4_isOne nw_people i1) fun r1 =>
  if r1 = 0 then
    some ((-1), hs_items)
  else
    bd1 (fX5_isWithin i2 1 12) fun r4 =>
    if r4 = 0 then
      some ((-1), hs_items)
    else
      bd1 (fX5_isSheet i3) fun r7 =>
      if r7 = 0 then
        some ((-1), hs_items)
      else
        bd1 (fX5_isLane i4) fun r10 =>
        if r10 = 0 then
          some ((-1), hs_items)
        else
          bd1 (ix i3 4) fun j13 =>
          bd1 (fX2_troubleOf (hs_lane j13) (hs_size j13) i4 i5 i2) fun r15 =>
          if r15 = 0 then
            bd1 (fX5_film_L65 hs_lane i1 i2 i3 i5 ng_harvest ng_sets ng_wet nw_kinds nw_loves fl 0 hs_items) fun q39 =>
            some (i2, q39)
          else
            some (r15, hs_items)
def fX5_sheet (hs_items : Nat → Nat → Int64) (hs_lane : Nat → Int32) (hs_size : Nat → Int32) (i1 : Int32) (i2 : Int32) (i3 : Int32) : Option (Int32 × (Nat → Nat → Int64) × (Nat → Int32) × (Nat → Int32)) :=
  bd1 (fX5_isSheet i1) fun r1 =>
  if r1 = 0 then
    some ((-1), hs_items, hs_lane, hs_size)
  else
    bd1 (fX5_isLane i2) fun r4 =>
    if r4 = 0 then
      some ((-1), hs_items, hs_lane, hs_size)
    else
      if i3 ≤ 24 then
        if 0 ≤ i3 then
          bd1 (ix i1 4) fun j9 =>
          bd3 (fX2_begin (hs_items j9) i2 i3) fun f11 x12 x13 =>
          some (i3, (va_up hs_items j9 f11), (va_up hs_lane j9 x12), (va_up hs_size j9 x13))
        else
          some ((-14), hs_items, hs_lane, hs_size)
      else
        some ((-1), hs_items, hs_lane, hs_size)
def fX5_drop (hs_items : Nat → Nat → Int64) (hs_lane : Nat → Int32) (hs_size : Nat → Int32) (i1 : Int32) : Option (Int32 × (Nat → Nat → Int64) × (Nat → Int32) × (Nat → Int32)) :=
  bd1 (fX5_isSheet i1) fun r1 =>
  if r1 = 0 then
    some ((-1), hs_items, hs_lane, hs_size)
  else
    bd1 (ix i1 4) fun j4 =>
    if (hs_lane j4) = (-1) then
      some ((-11), hs_items, hs_lane, hs_size)
    else
      bd3 (fX2_begin (hs_items j4) (-1) 0) fun f7 x8 x9 =>
      some ((hs_size j4), (va_up hs_items j4 f7), (va_up hs_lane j4 x8), (va_up hs_size j4 x9))
def fX5_item (hs_items : Nat → Nat → Int64) (hs_lane : Nat → Int32) (hs_size : Nat → Int32) (i1 : Int32) (i2 : Int32) (i3 : Int32) (i4 : Int64) : Option (Int32 × (Nat → Nat → Int64)) :=
  bd1 (fX5_isSheet i1) fun r1 =>
  if r1 = 0 then
    some ((-1), hs_items)
  else
    bd1 (fX5_isLane i2) fun r4 =>
    if r4 = 0 then
      some ((-1), hs_items)
    else
      bd1 (ix i1 4) fun j7 =>
      bd1 (fX2_troubleOf (hs_lane j7) (hs_size j7) i2 i3 1) fun r9 =>
      if r9 = 0 then
        bd1 (fX2_put (hs_items j7) (hs_lane j7) i3 i4) fun f12 =>
        some (1, (va_up hs_items j7 f12))
      else
        some (r9, hs_items)
def fX5_copy (hs_items : Nat → Nat → Int64) (hs_lane : Nat → Int32) (hs_size : Nat → Int32) (i1 : Int32) (i2 : Int32) (i3 : Int32) (i4 : Int32) (i5 : Int32) : Option (Int32 × (Nat → Nat → Int64)) :=
  bd1 (fX5_isSheet i1) fun r1 =>
  if r1 = 0 then
    some ((-1), hs_items)
  else
    bd1 (fX5_isSheet i3) fun r4 =>
    if r4 = 0 then
      some ((-1), hs_items)
    else
      bd1 (ix i1 4) fun j7 =>
      bd1 (ix i3 4) fun j9 =>
      if (hs_lane j7) = (-1) then
        some ((-11), hs_items)
      else
        if (hs_lane j9) = (-1) then
          some ((-11), hs_items)
        else
          if (hs_lane j7) = (hs_lane j9) then
            bd1 (fX2_hasRoom (hs_size j7) i2 i5) fun r14 =>
            if r14 = 0 then
              some ((-13), hs_items)
            else
              bd1 (fX2_hasRoom (hs_size j9) i4 i5) fun r17 =>
              if r17 = 0 then
                some ((-13), hs_items)
              else
                bd0 (cpo i2 i4 i5 24 24) <|
                some (i5, (va_up hs_items j9 (va_cpy (hs_items j7) (hs_items j9) (Int32.toNatClampNeg i2) (Int32.toNatClampNeg i4) (Int32.toNatClampNeg i5))))
          else
            some ((-12), hs_items)
theorem cal_X5_rain : CalV yX5_rain cX5_rain 8 (some .int) RX5 4 := ⟨t_637, t_635, t_636, t_37, by decide +kernel⟩
set_option maxHeartbeats 4000000 in
set_option maxRecDepth 100000 in
theorem cX5_rain_ok (l : Launch) (d : va_G) (cy : Nat → ClassId) (xx0 nw0 nw1 nw2 ng0 ng1 ng2 ng3 ps0 kp0 kq0 tr0 tp0 hs0 : Nat) (xx_isKept : Int32) (nw_people : Int32) (nw_fewest : Int32) (nw_kinds : Nat → Int32) (nw_loves : Nat → Int32) (ng_many : Nat → Int32) (ng_sets : Nat → Int32) (ng_chalk : Nat → Int32) (ng_wet : Int32) (ng_harvest : Int32) (ng_draw : Int32) (i1 : Int32) (i2 : Int32) (i3 : Int32) (i4 : Int32) (r : Int32) (h0 : fX5_rain nw_people nw_kinds nw_loves ng_sets ng_wet ng_harvest i1 i2 i3 i4 = some (r)) : CI l yX5_rain cX5_rain 8 (some .int) 4 103 d cy [.ref xx0, .int i1, .int i2, .int i3, .int i4] (List.flatten [wX cy xx0 nw0 ps0 kp0 kq0 tr0 tp0 hs0 xx_isKept, wT cy nw0 nw1 nw2 ng0 nw_people nw_fewest nw_kinds nw_loves, wG cy ng0 ng1 ng2 ng3 ng_many ng_sets ng_chalk ng_wet ng_harvest ng_draw]) (List.flatten [wX cy xx0 nw0 ps0 kp0 kq0 tr0 tp0 hs0 xx_isKept, wT cy nw0 nw1 nw2 ng0 nw_people nw_fewest nw_kinds nw_loves, wG cy ng0 ng1 ng2 ng3 ng_many ng_sets ng_chalk ng_wet ng_harvest ng_draw]) r := by
  refine CI.of (by decide) (Nat.le_of_ble_eq_true rfl) ?_
  intro p e s m args below meth c A ls Q F hret hw hl
  have hx := F.1
  have hb := F.2.1
  have hl : lv_has ls 8 [(0, .ref xx0), (1, .int i1), (2, .int i2), (3, .int i3), (4, .int i4)] := hl
  rw [fX5_rain] at h0
  refine lv_aload_n hx hb dX5_rain_0 rfl (lv_at hl 0 rfl) ?_
  refine g_get F inG5 hw 0 rfl rfl 0 (by decide) t_185 (fun _ h9 => h9) rfl dX5_rain_1 ?_
  refine lv_iload_n hx hb dX5_rain_4 rfl (lv_at hl 1 rfl) ?_
  obtain ⟨r1, k2, h24⟩ := ob1 h0
  clear h0
  refine g_vi F (cX4_isOne_ok l d cy nw0 nw1 nw2 ng0 ng1 ng2 ng3 nw_people nw_fewest nw_kinds nw_loves ng_many ng_sets ng_chalk ng_wet ng_harvest ng_draw i1 r1 k2) cal_X4_isOne t_233 rfl ⟨by decide, by decide⟩ hw (w' := List.flatten [wX cy xx0 nw0 ps0 kp0 kq0 tr0 tp0 hs0 xx_isKept, wT cy nw0 nw1 nw2 ng0 nw_people nw_fewest nw_kinds nw_loves, wG cy ng0 ng1 ng2 ng3 ng_many ng_sets ng_chalk ng_wet ng_harvest ng_draw]) (SCut.cut (SCut.skip (SCut.take SCut.rf (SCut.take SCut.rf SCut.none)))) 0 4 rfl rfl hl.1 (Nat.le_of_ble_eq_true rfl) rfl dX5_rain_5 (fun H locs hw => ?_)
  refine lv_if_eq (tgt := 40) hx hb dX5_rain_8 (by decide) (fun c3 => ?_) (fun c3 => ?_)
  · rw [if_pos c3] at h24
    refine lv_iconst (v := (-1)) hx hb dX5_rain_40 (by decide) ?_
    obtain rfl := inj1 h24
    exact hret _ _ _ _ hw dX5_rain_41
  · rw [if_neg c3] at h24
    refine lv_iload_n hx hb dX5_rain_11 rfl (lv_at hl 2 rfl) ?_
    refine lv_iconst (v := 0) hx hb dX5_rain_12 (by decide) ?_
    refine lv_sipush (v := 300) hx hb dX5_rain_13 (by decide) ?_
    obtain ⟨r4, k5, h25⟩ := ob1 h24
    clear h24
    refine g_si F (cX5_isWithin_ok l d cy i2 0 300 r4 k5) cal_X5_isWithin t_214 rfl ⟨by decide, by decide⟩ hw (w' := List.flatten [wX cy xx0 nw0 ps0 kp0 kq0 tr0 tp0 hs0 xx_isKept, wT cy nw0 nw1 nw2 ng0 nw_people nw_fewest nw_kinds nw_loves, wG cy ng0 ng1 ng2 ng3 ng_many ng_sets ng_chalk ng_wet ng_harvest ng_draw]) Cut.nil hl.1 (Nat.le_of_ble_eq_true rfl) rfl dX5_rain_16 (fun H locs hw => ?_)
    refine lv_if_eq (tgt := 40) hx hb dX5_rain_19 (by decide) (fun c6 => ?_) (fun c6 => ?_)
    · rw [if_pos c6] at h25
      refine lv_iconst (v := (-1)) hx hb dX5_rain_40 (by decide) ?_
      obtain rfl := inj1 h25
      exact hret _ _ _ _ hw dX5_rain_41
    · rw [if_neg c6] at h25
      refine lv_iload_n hx hb dX5_rain_22 rfl (lv_at hl 3 rfl) ?_
      refine lv_iconst (v := 0) hx hb dX5_rain_23 (by decide) ?_
      refine lv_bipush (v := 10) hx hb dX5_rain_24 (by decide) ?_
      obtain ⟨r7, k8, h26⟩ := ob1 h25
      clear h25
      refine g_si F (cX5_isWithin_ok l d cy i3 0 10 r7 k8) cal_X5_isWithin t_214 rfl ⟨by decide, by decide⟩ hw (w' := List.flatten [wX cy xx0 nw0 ps0 kp0 kq0 tr0 tp0 hs0 xx_isKept, wT cy nw0 nw1 nw2 ng0 nw_people nw_fewest nw_kinds nw_loves, wG cy ng0 ng1 ng2 ng3 ng_many ng_sets ng_chalk ng_wet ng_harvest ng_draw]) Cut.nil hl.1 (Nat.le_of_ble_eq_true rfl) rfl dX5_rain_26 (fun H locs hw => ?_)
      refine lv_if_eq (tgt := 40) hx hb dX5_rain_29 (by decide) (fun c9 => ?_) (fun c9 => ?_)
      · rw [if_pos c9] at h26
        refine lv_iconst (v := (-1)) hx hb dX5_rain_40 (by decide) ?_
        obtain rfl := inj1 h26
        exact hret _ _ _ _ hw dX5_rain_41
      · rw [if_neg c9] at h26
        refine lv_iload hx hb dX5_rain_32 (lv_at hl 4 rfl) ?_
        obtain ⟨r10, k11, h27⟩ := ob1 h26
        clear h26
        refine g_si F (cX5_isFlag_ok l d cy i4 r10 k11) cal_X5_isFlag t_278 rfl ⟨by decide, by decide⟩ hw (w' := List.flatten [wX cy xx0 nw0 ps0 kp0 kq0 tr0 tp0 hs0 xx_isKept, wT cy nw0 nw1 nw2 ng0 nw_people nw_fewest nw_kinds nw_loves, wG cy ng0 ng1 ng2 ng3 ng_many ng_sets ng_chalk ng_wet ng_harvest ng_draw]) Cut.nil hl.1 (Nat.le_of_ble_eq_true rfl) rfl dX5_rain_34 (fun H locs hw => ?_)
        refine lv_if_ne (tgt := 42) hx hb dX5_rain_37 (by decide) (fun c12 => ?_) (fun c12 => ?_)
        · rw [if_neg c12] at h27
          refine lv_aload_n hx hb dX5_rain_42 rfl (lv_at hl 0 rfl) ?_
          refine g_get F inG5 hw 0 rfl rfl 0 (by decide) t_185 (fun _ h9 => h9) rfl dX5_rain_43 ?_
          refine lv_iload_n hx hb dX5_rain_46 rfl (lv_at hl 1 rfl) ?_
          refine lv_iload_n hx hb dX5_rain_47 rfl (lv_at hl 2 rfl) ?_
          refine lv_iload_n hx hb dX5_rain_48 rfl (lv_at hl 3 rfl) ?_
          obtain ⟨r13, k14, h28⟩ := ob1 h27
          clear h27
          refine g_vi F (cX4_weightOfRain_ok l d cy nw0 nw1 nw2 ng0 ng1 ng2 ng3 nw_people nw_fewest nw_kinds nw_loves ng_many ng_sets ng_chalk ng_wet ng_harvest ng_draw i1 i2 i3 r13 k14) cal_X4_weightOfRain t_638 rfl ⟨by decide, by decide⟩ hw (w' := List.flatten [wX cy xx0 nw0 ps0 kp0 kq0 tr0 tp0 hs0 xx_isKept, wT cy nw0 nw1 nw2 ng0 nw_people nw_fewest nw_kinds nw_loves, wG cy ng0 ng1 ng2 ng3 ng_many ng_sets ng_chalk ng_wet ng_harvest ng_draw]) (SCut.cut (SCut.skip (SCut.take SCut.rf (SCut.take SCut.rf SCut.none)))) 0 4 rfl rfl hl.1 (Nat.le_of_ble_eq_true rfl) rfl dX5_rain_49 (fun H locs hw => ?_)
          refine lv_istore (lv' := [(5, .int r13), (0, .ref xx0), (1, .int i1), (2, .int i2), (3, .int i3), (4, .int i4)]) hx hb dX5_rain_52 hl (by decide) rfl (fun ls hl => ?_)
          refine lv_bipush (v := 10) hx hb dX5_rain_54 (by decide) ?_
          refine lv_bipush (v := 63) hx hb dX5_rain_56 (by decide) ?_
          refine lv_aload_n hx hb dX5_rain_58 rfl (lv_at hl 1 rfl) ?_
          refine g_get F inG5 hw 0 rfl rfl 0 (by decide) t_185 (fun _ h9 => h9) rfl dX5_rain_59 ?_
          refine g_get F inG4 hw 1 rfl rfl 4 (by decide) t_116 (fun _ h9 => h9) rfl dX5_rain_62 ?_
          refine g_get F inG0 hw 4 rfl rfl 3 (by decide) t_81 (fun _ h9 => h9) rfl dX5_rain_65 ?_
          refine lv_iconst (v := (-1)) hx hb dX5_rain_68 (by decide) ?_
          refine lv_ixor hx hb dX5_rain_69 ?_
          refine lv_iand hx hb dX5_rain_70 ?_
          obtain ⟨r15, k16, h29⟩ := ob1 h28
          clear h28
          refine g_si F (cJ6_bitCount_0f7a4_ok l d cy (63 &&& (ng_wet ^^^ (-1))) r15 k16) cal_J6_bitCount_0f7a4 t_613 rfl ⟨by decide, by decide⟩ hw (w' := List.flatten [wX cy xx0 nw0 ps0 kp0 kq0 tr0 tp0 hs0 xx_isKept, wT cy nw0 nw1 nw2 ng0 nw_people nw_fewest nw_kinds nw_loves, wG cy ng0 ng1 ng2 ng3 ng_many ng_sets ng_chalk ng_wet ng_harvest ng_draw]) Cut.nil hl.1 (Nat.le_of_ble_eq_true rfl) rfl dX5_rain_71 (fun H locs hw => ?_)
          obtain ⟨r17, k18, h30⟩ := ob1 h29
          clear h29
          refine g_si F (cX5_power_ok l d cy 10 r15 r17 k18) cal_X5_power t_645 rfl ⟨by decide, by decide⟩ hw (w' := List.flatten [wX cy xx0 nw0 ps0 kp0 kq0 tr0 tp0 hs0 xx_isKept, wT cy nw0 nw1 nw2 ng0 nw_people nw_fewest nw_kinds nw_loves, wG cy ng0 ng1 ng2 ng3 ng_many ng_sets ng_chalk ng_wet ng_harvest ng_draw]) Cut.nil hl.1 (Nat.le_of_ble_eq_true rfl) rfl dX5_rain_74 (fun H locs hw => ?_)
          refine lv_istore (lv' := [(6, .int r17), (5, .int r13), (0, .ref xx0), (1, .int i1), (2, .int i2), (3, .int i3), (4, .int i4)]) hx hb dX5_rain_77 hl (by decide) rfl (fun ls hl => ?_)
          refine lv_iconst (v := 1) hx hb dX5_rain_79 (by decide) ?_
          refine lv_iload hx hb dX5_rain_80 (lv_at hl 0 rfl) ?_
          refine lv_iload hx hb dX5_rain_82 (lv_at hl 1 rfl) ?_
          obtain ⟨r19, k20, h31⟩ := ob1 h30
          clear h30
          refine g_si F (cX5_greatestDivisor_ok l d cy r17 r13 r19 k20) cal_X5_greatestDivisor t_646 rfl ⟨by decide, by decide⟩ hw (w' := List.flatten [wX cy xx0 nw0 ps0 kp0 kq0 tr0 tp0 hs0 xx_isKept, wT cy nw0 nw1 nw2 ng0 nw_people nw_fewest nw_kinds nw_loves, wG cy ng0 ng1 ng2 ng3 ng_many ng_sets ng_chalk ng_wet ng_harvest ng_draw]) Cut.nil hl.1 (Nat.le_of_ble_eq_true rfl) rfl dX5_rain_84 (fun H locs hw => ?_)
          refine va_mmax hx hb (F.2.2.2.2.1.trans hl.1.symm) F.2.2.2.2.2.1 (F.2.2.2.2.2.2.1 _ t_649) (F.2.2.2.2.2.2.1 _ t_363) (F.2.2.2.2.2.2.1 _ t_47) (F.2.2.2.2.2.2.1 _ t_364) (by decide) (Nat.le_of_ble_eq_true rfl) (Nat.zero_le _) (Nat.zero_le _) dX5_rain_87 ?_
          refine lv_istore (lv' := [(7, .int (if 1 < r19 then r19 else 1)), (6, .int r17), (5, .int r13), (0, .ref xx0), (1, .int i1), (2, .int i2), (3, .int i3), (4, .int i4)]) hx hb dX5_rain_90 hl (by decide) rfl (fun ls hl => ?_)
          refine lv_iload hx hb dX5_rain_92 (lv_at hl 7 rfl) ?_
          refine lv_if_ne (tgt := 102) hx hb dX5_rain_94 (by decide) (fun c21 => ?_) (fun c21 => ?_)
          · rw [if_neg c21] at h31
            refine lv_iload hx hb dX5_rain_102 (lv_at hl 1 rfl) ?_
            refine lv_iload hx hb dX5_rain_104 (lv_at hl 0 rfl) ?_
            obtain ⟨k22, h32⟩ := ob0 h31
            clear h31
            refine lv_idiv hx hb dX5_rain_106 (nz_ne k22) ?_
            obtain rfl := inj1 h32
            exact hret _ _ _ _ hw dX5_rain_107
          · rw [if_pos c21] at h31
            refine lv_iload hx hb dX5_rain_97 (lv_at hl 2 rfl) ?_
            refine lv_goto (tgt := 104) hx hb dX5_rain_99 (by decide) ?_
            refine lv_iload hx hb dX5_rain_104 (lv_at hl 0 rfl) ?_
            obtain ⟨k23, h33⟩ := ob0 h31
            clear h31
            refine lv_idiv hx hb dX5_rain_106 (nz_ne k23) ?_
            obtain rfl := inj1 h33
            exact hret _ _ _ _ hw dX5_rain_107
        · rw [if_pos c12] at h27
          refine lv_iconst (v := (-1)) hx hb dX5_rain_40 (by decide) ?_
          obtain rfl := inj1 h27
          exact hret _ _ _ _ hw dX5_rain_41
theorem cal_X5_image : CalV yX5_image cX5_image 1 (some .int) RX5 0 := ⟨t_653, t_651, t_652, t_37, by decide +kernel⟩
set_option maxHeartbeats 4000000 in
set_option maxRecDepth 100000 in
theorem cX5_image_ok (l : Launch) (d : va_G) (cy : Nat → ClassId) (xx0 nw0 nw1 nw2 ng0 ng1 ng2 ng3 ps0 ps1 kp0 kp1 kp2 kg0 kg1 kg2 kg3 kq0 kq1 tr0 tp0 hs0 : Nat) (xx_isKept : Int32) (nw_people : Int32) (nw_fewest : Int32) (nw_kinds : Nat → Int32) (nw_loves : Nat → Int32) (ng_many : Nat → Int32) (ng_sets : Nat → Int32) (ng_chalk : Nat → Int32) (ng_wet : Int32) (ng_harvest : Int32) (ng_draw : Int32) (ps_known : Int32) (ps_r0 : Nat → Nat) (ps_r1 : Nat → Nat) (ps_r2 : Nat → Nat) (ps_r3 : Nat → Nat) (ps_many : Nat → Nat → Int32) (ps_sets : Nat → Nat → Int32) (ps_chalk : Nat → Nat → Int32) (ps_wet : Nat → Int32) (ps_harvest : Nat → Int32) (ps_draw : Nat → Int32) (kp_people : Int32) (kp_fewest : Int32) (kp_kinds : Nat → Int32) (kp_loves : Nat → Int32) (kg_many : Nat → Int32) (kg_sets : Nat → Int32) (kg_chalk : Nat → Int32) (kg_wet : Int32) (kg_harvest : Int32) (kg_draw : Int32) (kq_known : Int32) (kq_r0 : Nat → Nat) (kq_r1 : Nat → Nat) (kq_r2 : Nat → Nat) (kq_r3 : Nat → Nat) (kq_many : Nat → Nat → Int32) (kq_sets : Nat → Nat → Int32) (kq_chalk : Nat → Nat → Int32) (kq_wet : Nat → Int32) (kq_harvest : Nat → Int32) (kq_draw : Nat → Int32) (r : Int32) (xx_isKept_r : Int32) (kp_people_r : Int32) (kp_fewest_r : Int32) (kp_kinds_r : Nat → Int32) (kp_loves_r : Nat → Int32) (kg_many_r : Nat → Int32) (kg_sets_r : Nat → Int32) (kg_chalk_r : Nat → Int32) (kg_wet_r : Int32) (kg_harvest_r : Int32) (kg_draw_r : Int32) (kq_known_r : Int32) (kq_many_r : Nat → Nat → Int32) (kq_sets_r : Nat → Nat → Int32) (kq_chalk_r : Nat → Nat → Int32) (kq_wet_r : Nat → Int32) (kq_harvest_r : Nat → Int32) (kq_draw_r : Nat → Int32) (h0 : fX5_image nw_people nw_fewest nw_kinds nw_loves ng_many ng_sets ng_chalk ng_wet ng_harvest ng_draw ps_known ps_many ps_sets ps_chalk ps_wet ps_harvest ps_draw kp_kinds kp_loves kg_many kg_sets kg_chalk kq_many kq_sets kq_chalk kq_wet kq_harvest kq_draw = some (r, xx_isKept_r, kp_people_r, kp_fewest_r, kp_kinds_r, kp_loves_r, kg_many_r, kg_sets_r, kg_chalk_r, kg_wet_r, kg_harvest_r, kg_draw_r, kq_known_r, kq_many_r, kq_sets_r, kq_chalk_r, kq_wet_r, kq_harvest_r, kq_draw_r)) : CI l yX5_image cX5_image 1 (some .int) 3 103 d cy [.ref xx0] (List.flatten [wX cy xx0 nw0 ps0 kp0 kq0 tr0 tp0 hs0 xx_isKept, wT cy nw0 nw1 nw2 ng0 nw_people nw_fewest nw_kinds nw_loves, wG cy ng0 ng1 ng2 ng3 ng_many ng_sets ng_chalk ng_wet ng_harvest ng_draw, wP cy ps0 ps1 ps_known ps_r0 ps_r1 ps_r2 ps_r3 ps_many ps_sets ps_chalk ps_wet ps_harvest ps_draw, wT cy kp0 kp1 kp2 kg0 kp_people kp_fewest kp_kinds kp_loves, wG cy kg0 kg1 kg2 kg3 kg_many kg_sets kg_chalk kg_wet kg_harvest kg_draw, wP cy kq0 kq1 kq_known kq_r0 kq_r1 kq_r2 kq_r3 kq_many kq_sets kq_chalk kq_wet kq_harvest kq_draw]) (List.flatten [wX cy xx0 nw0 ps0 kp0 kq0 tr0 tp0 hs0 xx_isKept_r, wT cy nw0 nw1 nw2 ng0 nw_people nw_fewest nw_kinds nw_loves, wG cy ng0 ng1 ng2 ng3 ng_many ng_sets ng_chalk ng_wet ng_harvest ng_draw, wP cy ps0 ps1 ps_known ps_r0 ps_r1 ps_r2 ps_r3 ps_many ps_sets ps_chalk ps_wet ps_harvest ps_draw, wT cy kp0 kp1 kp2 kg0 kp_people_r kp_fewest_r kp_kinds_r kp_loves_r, wG cy kg0 kg1 kg2 kg3 kg_many_r kg_sets_r kg_chalk_r kg_wet_r kg_harvest_r kg_draw_r, wP cy kq0 kq1 kq_known_r kq_r0 kq_r1 kq_r2 kq_r3 kq_many_r kq_sets_r kq_chalk_r kq_wet_r kq_harvest_r kq_draw_r]) r := by
  refine CI.of (by decide) (Nat.le_of_ble_eq_true rfl) ?_
  intro p e s m args below meth c A ls Q F hret hw hl
  have hx := F.1
  have hb := F.2.1
  have hl : lv_has ls 1 [(0, .ref xx0)] := hl
  rw [fX5_image] at h0
  refine lv_aload_n hx hb dX5_image_0 rfl (lv_at hl 0 rfl) ?_
  refine g_get F inG5 hw 0 rfl rfl 2 (by decide) t_187 (fun _ h9 => h9) rfl dX5_image_1 ?_
  refine lv_aload_n hx hb dX5_image_4 rfl (lv_at hl 0 rfl) ?_
  refine g_get F inG5 hw 0 rfl rfl 0 (by decide) t_185 (fun _ h9 => h9) rfl dX5_image_5 ?_
  obtain ⟨x1, x2, f3, f4, f5, f6, f7, x8, x9, x10, k11, h20⟩ := ob10 h0
  clear h0
  refine g_vv F (cX4_copyTown_ok l d cy kp0 kp1 kp2 kg0 kg1 kg2 kg3 nw0 nw1 nw2 ng0 ng1 ng2 ng3 kp_people kp_fewest kp_kinds kp_loves kg_many kg_sets kg_chalk kg_wet kg_harvest kg_draw nw_people nw_fewest nw_kinds nw_loves ng_many ng_sets ng_chalk ng_wet ng_harvest ng_draw x1 x2 f3 f4 f5 f6 f7 x8 x9 x10 k11) cal_X4_copyTown t_305 rfl ⟨by decide, by decide⟩ hw (w' := List.flatten [wX cy xx0 nw0 ps0 kp0 kq0 tr0 tp0 hs0 xx_isKept, wT cy nw0 nw1 nw2 ng0 nw_people nw_fewest nw_kinds nw_loves, wG cy ng0 ng1 ng2 ng3 ng_many ng_sets ng_chalk ng_wet ng_harvest ng_draw, wP cy ps0 ps1 ps_known ps_r0 ps_r1 ps_r2 ps_r3 ps_many ps_sets ps_chalk ps_wet ps_harvest ps_draw, wT cy kp0 kp1 kp2 kg0 x1 x2 f3 f4, wG cy kg0 kg1 kg2 kg3 f5 f6 f7 x8 x9 x10, wP cy kq0 kq1 kq_known kq_r0 kq_r1 kq_r2 kq_r3 kq_many kq_sets kq_chalk kq_wet kq_harvest kq_draw]) (SCut.cut (SCut.ord [_, _, _, _] [_, _, _, _] [2, 3, 0, 1] (show List.Perm [2, 3, 0, 1] (List.range 4) by decide) rfl (SCut.skip (SCut.take SCut.rf (SCut.take SCut.rf (SCut.skip (SCut.take SCut.rf (SCut.take SCut.rf (SCut.skip SCut.none))))))))) 0 4 rfl rfl hl.1 (Nat.le_of_ble_eq_true rfl) rfl dX5_image_8 (fun H locs hw => ?_)
  refine lv_aload_n hx hb dX5_image_11 rfl (lv_at hl 0 rfl) ?_
  refine g_get F inG5 hw 0 rfl rfl 3 (by decide) t_188 (fun _ h9 => h9) rfl dX5_image_12 ?_
  refine lv_aload_n hx hb dX5_image_15 rfl (lv_at hl 0 rfl) ?_
  refine g_get F inG5 hw 0 rfl rfl 1 (by decide) t_186 (fun _ h9 => h9) rfl dX5_image_16 ?_
  obtain ⟨x12, f13, f14, f15, f16, f17, f18, k19, h21⟩ := ob7 h20
  clear h20
  refine g_vv F (cX1_copyPast_ok l d cy kq0 kq1 ps0 ps1 kq_known kq_r0 kq_r1 kq_r2 kq_r3 kq_many kq_sets kq_chalk kq_wet kq_harvest kq_draw ps_known ps_r0 ps_r1 ps_r2 ps_r3 ps_many ps_sets ps_chalk ps_wet ps_harvest ps_draw x12 f13 f14 f15 f16 f17 f18 k19) cal_X1_copyPast t_654 rfl ⟨by decide, by decide⟩ hw (w' := List.flatten [wX cy xx0 nw0 ps0 kp0 kq0 tr0 tp0 hs0 xx_isKept, wT cy nw0 nw1 nw2 ng0 nw_people nw_fewest nw_kinds nw_loves, wG cy ng0 ng1 ng2 ng3 ng_many ng_sets ng_chalk ng_wet ng_harvest ng_draw, wP cy ps0 ps1 ps_known ps_r0 ps_r1 ps_r2 ps_r3 ps_many ps_sets ps_chalk ps_wet ps_harvest ps_draw, wT cy kp0 kp1 kp2 kg0 x1 x2 f3 f4, wG cy kg0 kg1 kg2 kg3 f5 f6 f7 x8 x9 x10, wP cy kq0 kq1 x12 kq_r0 kq_r1 kq_r2 kq_r3 f13 f14 f15 f16 f17 f18]) (SCut.cut (SCut.ord [_, _] [_, _] [1, 0] (show List.Perm [1, 0] (List.range 2) by decide) rfl (SCut.skip (SCut.skip (SCut.skip (SCut.take SCut.rf (SCut.skip (SCut.skip (SCut.take SCut.rf SCut.none))))))))) 0 1 rfl rfl hl.1 (Nat.le_of_ble_eq_true rfl) rfl dX5_image_19 (fun H locs hw => ?_)
  refine lv_aload_n hx hb dX5_image_22 rfl (lv_at hl 0 rfl) ?_
  refine lv_iconst (v := 1) hx hb dX5_image_23 (by decide) ?_
  refine g_put F inG5 tyX5 tyX5_ok nmX5 hw 0 rfl rfl 4 (by decide) t_189 (fun _ h9 => h9) rfl (ty := .boolean) (by decide +kernel) rfl rfl (Nat.le_of_ble_eq_true rfl) dX5_image_24 (w' := List.flatten [wX cy xx0 nw0 ps0 kp0 kq0 tr0 tp0 hs0 1, wT cy nw0 nw1 nw2 ng0 nw_people nw_fewest nw_kinds nw_loves, wG cy ng0 ng1 ng2 ng3 ng_many ng_sets ng_chalk ng_wet ng_harvest ng_draw, wP cy ps0 ps1 ps_known ps_r0 ps_r1 ps_r2 ps_r3 ps_many ps_sets ps_chalk ps_wet ps_harvest ps_draw, wT cy kp0 kp1 kp2 kg0 x1 x2 f3 f4, wG cy kg0 kg1 kg2 kg3 f5 f6 f7 x8 x9 x10, wP cy kq0 kq1 x12 kq_r0 kq_r1 kq_r2 kq_r3 f13 f14 f15 f16 f17 f18]) rfl (fun H locs hw => ?_)
  refine lv_iconst (v := 1) hx hb dX5_image_27 (by decide) ?_
  obtain ⟨rfl, rfl, rfl, rfl, rfl, rfl, rfl, rfl, rfl, rfl, rfl, rfl, rfl, rfl, rfl, rfl, rfl, rfl, rfl⟩ := inj19 h21
  exact hret _ _ _ _ hw dX5_image_28
theorem cal_X5_restore : CalV yX5_restore cX5_restore 1 (some .int) RX5 0 := ⟨t_661, t_659, t_660, t_37, by decide +kernel⟩
set_option maxHeartbeats 4000000 in
set_option maxRecDepth 100000 in
theorem cX5_restore_ok (l : Launch) (d : va_G) (cy : Nat → ClassId) (xx0 nw0 nw1 nw2 ng0 ng1 ng2 ng3 ps0 ps1 kp0 kp1 kp2 kg0 kg1 kg2 kg3 kq0 kq1 tr0 tp0 hs0 : Nat) (xx_isKept : Int32) (nw_people : Int32) (nw_fewest : Int32) (nw_kinds : Nat → Int32) (nw_loves : Nat → Int32) (ng_many : Nat → Int32) (ng_sets : Nat → Int32) (ng_chalk : Nat → Int32) (ng_wet : Int32) (ng_harvest : Int32) (ng_draw : Int32) (ps_known : Int32) (ps_r0 : Nat → Nat) (ps_r1 : Nat → Nat) (ps_r2 : Nat → Nat) (ps_r3 : Nat → Nat) (ps_many : Nat → Nat → Int32) (ps_sets : Nat → Nat → Int32) (ps_chalk : Nat → Nat → Int32) (ps_wet : Nat → Int32) (ps_harvest : Nat → Int32) (ps_draw : Nat → Int32) (kp_people : Int32) (kp_fewest : Int32) (kp_kinds : Nat → Int32) (kp_loves : Nat → Int32) (kg_many : Nat → Int32) (kg_sets : Nat → Int32) (kg_chalk : Nat → Int32) (kg_wet : Int32) (kg_harvest : Int32) (kg_draw : Int32) (kq_known : Int32) (kq_r0 : Nat → Nat) (kq_r1 : Nat → Nat) (kq_r2 : Nat → Nat) (kq_r3 : Nat → Nat) (kq_many : Nat → Nat → Int32) (kq_sets : Nat → Nat → Int32) (kq_chalk : Nat → Nat → Int32) (kq_wet : Nat → Int32) (kq_harvest : Nat → Int32) (kq_draw : Nat → Int32) (r : Int32) (nw_people_r : Int32) (nw_fewest_r : Int32) (nw_kinds_r : Nat → Int32) (nw_loves_r : Nat → Int32) (ng_many_r : Nat → Int32) (ng_sets_r : Nat → Int32) (ng_chalk_r : Nat → Int32) (ng_wet_r : Int32) (ng_harvest_r : Int32) (ng_draw_r : Int32) (ps_known_r : Int32) (ps_many_r : Nat → Nat → Int32) (ps_sets_r : Nat → Nat → Int32) (ps_chalk_r : Nat → Nat → Int32) (ps_wet_r : Nat → Int32) (ps_harvest_r : Nat → Int32) (ps_draw_r : Nat → Int32) (h0 : fX5_restore xx_isKept nw_people nw_fewest nw_kinds nw_loves ng_many ng_sets ng_chalk ng_wet ng_harvest ng_draw ps_known ps_many ps_sets ps_chalk ps_wet ps_harvest ps_draw kp_people kp_fewest kp_kinds kp_loves kg_many kg_sets kg_chalk kg_wet kg_harvest kg_draw kq_known kq_many kq_sets kq_chalk kq_wet kq_harvest kq_draw = some (r, nw_people_r, nw_fewest_r, nw_kinds_r, nw_loves_r, ng_many_r, ng_sets_r, ng_chalk_r, ng_wet_r, ng_harvest_r, ng_draw_r, ps_known_r, ps_many_r, ps_sets_r, ps_chalk_r, ps_wet_r, ps_harvest_r, ps_draw_r)) : CI l yX5_restore cX5_restore 1 (some .int) 3 103 d cy [.ref xx0] (List.flatten [wX cy xx0 nw0 ps0 kp0 kq0 tr0 tp0 hs0 xx_isKept, wT cy nw0 nw1 nw2 ng0 nw_people nw_fewest nw_kinds nw_loves, wG cy ng0 ng1 ng2 ng3 ng_many ng_sets ng_chalk ng_wet ng_harvest ng_draw, wP cy ps0 ps1 ps_known ps_r0 ps_r1 ps_r2 ps_r3 ps_many ps_sets ps_chalk ps_wet ps_harvest ps_draw, wT cy kp0 kp1 kp2 kg0 kp_people kp_fewest kp_kinds kp_loves, wG cy kg0 kg1 kg2 kg3 kg_many kg_sets kg_chalk kg_wet kg_harvest kg_draw, wP cy kq0 kq1 kq_known kq_r0 kq_r1 kq_r2 kq_r3 kq_many kq_sets kq_chalk kq_wet kq_harvest kq_draw]) (List.flatten [wX cy xx0 nw0 ps0 kp0 kq0 tr0 tp0 hs0 xx_isKept, wT cy nw0 nw1 nw2 ng0 nw_people_r nw_fewest_r nw_kinds_r nw_loves_r, wG cy ng0 ng1 ng2 ng3 ng_many_r ng_sets_r ng_chalk_r ng_wet_r ng_harvest_r ng_draw_r, wP cy ps0 ps1 ps_known_r ps_r0 ps_r1 ps_r2 ps_r3 ps_many_r ps_sets_r ps_chalk_r ps_wet_r ps_harvest_r ps_draw_r, wT cy kp0 kp1 kp2 kg0 kp_people kp_fewest kp_kinds kp_loves, wG cy kg0 kg1 kg2 kg3 kg_many kg_sets kg_chalk kg_wet kg_harvest kg_draw, wP cy kq0 kq1 kq_known kq_r0 kq_r1 kq_r2 kq_r3 kq_many kq_sets kq_chalk kq_wet kq_harvest kq_draw]) r := by
  refine CI.of (by decide) (Nat.le_of_ble_eq_true rfl) ?_
  intro p e s m args below meth c A ls Q F hret hw hl
  have hx := F.1
  have hb := F.2.1
  have hl : lv_has ls 1 [(0, .ref xx0)] := hl
  rw [fX5_restore] at h0
  refine lv_aload_n hx hb dX5_restore_0 rfl (lv_at hl 0 rfl) ?_
  refine g_get F inG5 hw 0 rfl rfl 4 (by decide) t_189 (fun _ h9 => h9) rfl dX5_restore_1 ?_
  refine lv_if_ne (tgt := 10) hx hb dX5_restore_4 (by decide) (fun c1 => ?_) (fun c1 => ?_)
  · rw [if_neg c1] at h0
    refine lv_aload_n hx hb dX5_restore_10 rfl (lv_at hl 0 rfl) ?_
    refine g_get F inG5 hw 0 rfl rfl 0 (by decide) t_185 (fun _ h9 => h9) rfl dX5_restore_11 ?_
    refine lv_aload_n hx hb dX5_restore_14 rfl (lv_at hl 0 rfl) ?_
    refine g_get F inG5 hw 0 rfl rfl 2 (by decide) t_187 (fun _ h9 => h9) rfl dX5_restore_15 ?_
    obtain ⟨x2, x3, f4, f5, f6, f7, f8, x9, x10, x11, k12, h21⟩ := ob10 h0
    clear h0
    refine g_vv F (cX4_copyTown_ok l d cy nw0 nw1 nw2 ng0 ng1 ng2 ng3 kp0 kp1 kp2 kg0 kg1 kg2 kg3 nw_people nw_fewest nw_kinds nw_loves ng_many ng_sets ng_chalk ng_wet ng_harvest ng_draw kp_people kp_fewest kp_kinds kp_loves kg_many kg_sets kg_chalk kg_wet kg_harvest kg_draw x2 x3 f4 f5 f6 f7 f8 x9 x10 x11 k12) cal_X4_copyTown t_305 rfl ⟨by decide, by decide⟩ hw (w' := List.flatten [wX cy xx0 nw0 ps0 kp0 kq0 tr0 tp0 hs0 xx_isKept, wT cy nw0 nw1 nw2 ng0 x2 x3 f4 f5, wG cy ng0 ng1 ng2 ng3 f6 f7 f8 x9 x10 x11, wP cy ps0 ps1 ps_known ps_r0 ps_r1 ps_r2 ps_r3 ps_many ps_sets ps_chalk ps_wet ps_harvest ps_draw, wT cy kp0 kp1 kp2 kg0 kp_people kp_fewest kp_kinds kp_loves, wG cy kg0 kg1 kg2 kg3 kg_many kg_sets kg_chalk kg_wet kg_harvest kg_draw, wP cy kq0 kq1 kq_known kq_r0 kq_r1 kq_r2 kq_r3 kq_many kq_sets kq_chalk kq_wet kq_harvest kq_draw]) (SCut.cut (SCut.skip (SCut.take SCut.rf (SCut.take SCut.rf (SCut.skip (SCut.take SCut.rf (SCut.take SCut.rf (SCut.skip SCut.none)))))))) 0 4 rfl rfl hl.1 (Nat.le_of_ble_eq_true rfl) rfl dX5_restore_18 (fun H locs hw => ?_)
    refine lv_aload_n hx hb dX5_restore_21 rfl (lv_at hl 0 rfl) ?_
    refine g_get F inG5 hw 0 rfl rfl 1 (by decide) t_186 (fun _ h9 => h9) rfl dX5_restore_22 ?_
    refine lv_aload_n hx hb dX5_restore_25 rfl (lv_at hl 0 rfl) ?_
    refine g_get F inG5 hw 0 rfl rfl 3 (by decide) t_188 (fun _ h9 => h9) rfl dX5_restore_26 ?_
    obtain ⟨x13, f14, f15, f16, f17, f18, f19, k20, h22⟩ := ob7 h21
    clear h21
    refine g_vv F (cX1_copyPast_ok l d cy ps0 ps1 kq0 kq1 ps_known ps_r0 ps_r1 ps_r2 ps_r3 ps_many ps_sets ps_chalk ps_wet ps_harvest ps_draw kq_known kq_r0 kq_r1 kq_r2 kq_r3 kq_many kq_sets kq_chalk kq_wet kq_harvest kq_draw x13 f14 f15 f16 f17 f18 f19 k20) cal_X1_copyPast t_654 rfl ⟨by decide, by decide⟩ hw (w' := List.flatten [wX cy xx0 nw0 ps0 kp0 kq0 tr0 tp0 hs0 xx_isKept, wT cy nw0 nw1 nw2 ng0 x2 x3 f4 f5, wG cy ng0 ng1 ng2 ng3 f6 f7 f8 x9 x10 x11, wP cy ps0 ps1 x13 ps_r0 ps_r1 ps_r2 ps_r3 f14 f15 f16 f17 f18 f19, wT cy kp0 kp1 kp2 kg0 kp_people kp_fewest kp_kinds kp_loves, wG cy kg0 kg1 kg2 kg3 kg_many kg_sets kg_chalk kg_wet kg_harvest kg_draw, wP cy kq0 kq1 kq_known kq_r0 kq_r1 kq_r2 kq_r3 kq_many kq_sets kq_chalk kq_wet kq_harvest kq_draw]) (SCut.cut (SCut.skip (SCut.skip (SCut.skip (SCut.take SCut.rf (SCut.skip (SCut.skip (SCut.take SCut.rf SCut.none)))))))) 0 1 rfl rfl hl.1 (Nat.le_of_ble_eq_true rfl) rfl dX5_restore_29 (fun H locs hw => ?_)
    refine lv_iconst (v := 1) hx hb dX5_restore_32 (by decide) ?_
    obtain ⟨rfl, rfl, rfl, rfl, rfl, rfl, rfl, rfl, rfl, rfl, rfl, rfl, rfl, rfl, rfl, rfl, rfl, rfl⟩ := inj18 h22
    exact hret _ _ _ _ hw dX5_restore_33
  · rw [if_pos c1] at h0
    refine lv_bipush (v := (-4)) hx hb dX5_restore_7 (by decide) ?_
    obtain ⟨rfl, rfl, rfl, rfl, rfl, rfl, rfl, rfl, rfl, rfl, rfl, rfl, rfl, rfl, rfl, rfl, rfl, rfl⟩ := inj18 h0
    exact hret _ _ _ _ hw dX5_restore_9
theorem cal_X5_isAsTold : CalV yX5_isAsTold cX5_isAsTold 10 (some .boolean) RX5 6 := ⟨t_688, t_687, t_1, t_37, by decide +kernel⟩
set_option maxHeartbeats 4000000 in
set_option maxRecDepth 100000 in
theorem cX5_isAsTold_ok (l : Launch) (d : va_G) (cy : Nat → ClassId) (xx0 nw0 nw1 nw2 ng0 ng1 ng2 ng3 sh0 sh1 ps0 kp0 kq0 tr0 tp0 hs0 : Nat) (xx_isKept : Int32) (nw_people : Int32) (nw_fewest : Int32) (nw_kinds : Nat → Int32) (nw_loves : Nat → Int32) (ng_many : Nat → Int32) (ng_sets : Nat → Int32) (ng_chalk : Nat → Int32) (ng_wet : Int32) (ng_harvest : Int32) (ng_draw : Int32) (sh_items : Nat → Int64) (sh_lane : Int32) (sh_size : Int32) (i1 : Int32) (i2 : Int32) (i3 : Int32) (i5 : Int32) (i6 : Int32) (r : Int32) (h0 : fX5_isAsTold ng_sets ng_wet ng_harvest sh_items i1 i2 i3 i5 i6 = some (r)) : CI l yX5_isAsTold cX5_isAsTold 10 (some .boolean) 2 49 d cy [.ref xx0, .int i1, .int i2, .int i3, .ref sh0, .int i5, .int i6] (List.flatten [wX cy xx0 nw0 ps0 kp0 kq0 tr0 tp0 hs0 xx_isKept, wT cy nw0 nw1 nw2 ng0 nw_people nw_fewest nw_kinds nw_loves, wG cy ng0 ng1 ng2 ng3 ng_many ng_sets ng_chalk ng_wet ng_harvest ng_draw, wS cy sh0 sh1 sh_items sh_lane sh_size]) (List.flatten [wX cy xx0 nw0 ps0 kp0 kq0 tr0 tp0 hs0 xx_isKept, wT cy nw0 nw1 nw2 ng0 nw_people nw_fewest nw_kinds nw_loves, wG cy ng0 ng1 ng2 ng3 ng_many ng_sets ng_chalk ng_wet ng_harvest ng_draw, wS cy sh0 sh1 sh_items sh_lane sh_size]) r := by
  refine CZ.of (by decide) (Nat.le_of_ble_eq_true rfl) ?_
  intro p e s m args below meth c A ls Q F hret hw hl
  have hx := F.1
  have hb := F.2.1
  have hl : lv_has ls 10 [(0, .ref xx0), (1, .int i1), (2, .int i2), (3, .int i3), (4, .ref sh0), (5, .int i5), (6, .int i6)] := hl
  rw [fX5_isAsTold] at h0
  refine lv_aload_n hx hb dX5_isAsTold_0 rfl (lv_at hl 0 rfl) ?_
  refine g_get F inG5 hw 0 rfl rfl 0 (by decide) t_185 (fun _ h9 => h9) rfl dX5_isAsTold_1 ?_
  refine g_get F inG4 hw 1 rfl rfl 4 (by decide) t_116 (fun _ h9 => h9) rfl dX5_isAsTold_4 ?_
  refine lv_astore (lv' := [(7, .ref ng0), (0, .ref xx0), (1, .int i1), (2, .int i2), (3, .int i3), (4, .ref sh0), (5, .int i5), (6, .int i6)]) hx hb dX5_isAsTold_7 hl (by decide) rfl (fun ls hl => ?_)
  refine lv_iconst (v := 0) hx hb dX5_isAsTold_9 (by decide) ?_
  refine lv_istore (lv' := [(8, .int 0), (7, .ref ng0), (0, .ref xx0), (1, .int i1), (2, .int i2), (3, .int i3), (4, .ref sh0), (5, .int i5), (6, .int i6)]) hx hb dX5_isAsTold_10 hl (by decide) rfl (fun ls hl => ?_)
  obtain ⟨zz31, h32, h33⟩ := ob1 h0
  clear h0
  have kont19 : ∀ (_ : Unit), zz31 = Sum.inr () → ∀ (H : Heap) (locs : List Loc) (ls : Array Slot), Wd d A s.heap (List.flatten [wX cy xx0 nw0 ps0 kp0 kq0 tr0 tp0 hs0 xx_isKept, wT cy nw0 nw1 nw2 ng0 nw_people nw_fewest nw_kinds nw_loves, wG cy ng0 ng1 ng2 ng3 ng_many ng_sets ng_chalk ng_wet ng_harvest ng_draw, wS cy sh0 sh1 sh_items sh_lane sh_size]) H locs → lv_has ls 10 [] → W p l e (rmo 2 49) s m args below meth c H locs 0 0 Q (F0 m 71 ls []) := by
    intro _ hz H locs ls hw hl
    subst hz
    clear h32
    have h34 : (some (1)) = some (r) := h33
    clear h33
    refine lv_iconst (v := 1) hx hb dX5_isAsTold_71 (by decide) ?_
    obtain rfl := inj1 h34
    exact hret _ _ _ _ rfl hw dX5_isAsTold_72
  have hretl : ∀ ww, zz31 = Sum.inl ww → ww = (r) := by
    intro ww hz
    subst hz
    exact Option.some.inj h33
  clear h33
  have loop21 : ∀ (n : Nat) (v18 : Int32) (H : Heap) (locs : List Loc) (ls : Array Slot), Wd d A s.heap (List.flatten [wX cy xx0 nw0 ps0 kp0 kq0 tr0 tp0 hs0 xx_isKept, wT cy nw0 nw1 nw2 ng0 nw_people nw_fewest nw_kinds nw_loves, wG cy ng0 ng1 ng2 ng3 ng_many ng_sets ng_chalk ng_wet ng_harvest ng_draw, wS cy sh0 sh1 sh_items sh_lane sh_size]) H locs → lv_has ls 10 [(1, .int i1), (2, .int i2), (3, .int i3), (4, .ref sh0), (5, .int i5), (6, .int i6), (7, .ref ng0), (8, .int v18)] → fX5_isAsTold_L12 i1 i2 i3 i5 i6 ng_harvest ng_sets ng_wet sh_items n v18 = some zz31 → W p l e (rmo 2 49) s m args below meth c H locs 0 0 Q (F0 m 12 ls []) := by
    intro n
    induction n with
    | zero =>
      intro v18 H locs ls hw hl h35
      rw [fX5_isAsTold_L12] at h35
      cases h35
    | succ n ih20 =>
      intro v18 H locs ls hw hl h36
      rw [fX5_isAsTold_L12] at h36
      refine lv_iload hx hb dX5_isAsTold_12 (lv_at hl 7 rfl) ?_
      refine lv_iload hx hb dX5_isAsTold_14 (lv_at hl 5 rfl) ?_
      refine lv_icmp_ge (tgt := 71) hx hb dX5_isAsTold_16 (by decide) (fun c22 => ?_) (fun c22 => ?_)
      · rw [if_pos c22] at h36
        exact kont19 () (Option.some.inj h36).symm _ _ _ hw (lv_sub hl [] rfl)
      · rw [if_neg c22] at h36
        refine lv_iload_n hx hb dX5_isAsTold_19 rfl (lv_at hl 1 rfl) ?_
        refine lv_iload hx hb dX5_isAsTold_20 (lv_at hl 7 rfl) ?_
        refine lv_aload hx hb dX5_isAsTold_22 (lv_at hl 6 rfl) ?_
        refine g_get F inG0 hw 4 rfl rfl 1 (by decide) t_74 (fun _ h9 => h9) rfl dX5_isAsTold_24 ?_
        refine lv_iload_n hx hb dX5_isAsTold_27 rfl (lv_at hl 0 rfl) ?_
        obtain ⟨j23, k24, h37⟩ := ob1 h36
        clear h36
        refine g_iald F hw 6 rfl k24 dX5_isAsTold_28 ?_
        refine lv_iload_n hx hb dX5_isAsTold_29 rfl (lv_at hl 2 rfl) ?_
        refine lv_aload hx hb dX5_isAsTold_30 (lv_at hl 6 rfl) ?_
        refine g_get F inG0 hw 4 rfl rfl 3 (by decide) t_81 (fun _ h9 => h9) rfl dX5_isAsTold_32 ?_
        refine lv_aload hx hb dX5_isAsTold_35 (lv_at hl 6 rfl) ?_
        refine g_get F inG0 hw 4 rfl rfl 4 (by decide) t_86 (fun _ h9 => h9) rfl dX5_isAsTold_37 ?_
        obtain ⟨r25, k26, h38⟩ := ob1 h37
        clear h37
        refine g_si F (cX5_worthByKind_ok l d cy i2 v18 (ng_sets j23) i3 ng_wet ng_harvest r25 k26) cal_X5_worthByKind t_689 rfl ⟨by decide, by decide⟩ hw (w' := List.flatten [wX cy xx0 nw0 ps0 kp0 kq0 tr0 tp0 hs0 xx_isKept, wT cy nw0 nw1 nw2 ng0 nw_people nw_fewest nw_kinds nw_loves, wG cy ng0 ng1 ng2 ng3 ng_many ng_sets ng_chalk ng_wet ng_harvest ng_draw, wS cy sh0 sh1 sh_items sh_lane sh_size]) Cut.nil hl.1 (Nat.le_of_ble_eq_true rfl) rfl dX5_isAsTold_40 (fun H locs hw => ?_)
        refine lv_istore (lv' := [(9, .int r25), (1, .int i1), (2, .int i2), (3, .int i3), (4, .ref sh0), (5, .int i5), (6, .int i6), (7, .ref ng0), (8, .int v18)]) hx hb dX5_isAsTold_43 hl (by decide) rfl (fun ls hl => ?_)
        refine lv_aload hx hb dX5_isAsTold_45 (lv_at hl 4 rfl) ?_
        refine g_get F inG2 hw 8 rfl rfl 0 (by decide) t_172 (fun _ h9 => h9) rfl dX5_isAsTold_47 ?_
        refine lv_iload hx hb dX5_isAsTold_50 (lv_at hl 5 rfl) ?_
        refine lv_iload hx hb dX5_isAsTold_52 (lv_at hl 8 rfl) ?_
        refine lv_iadd hx hb dX5_isAsTold_54 ?_
        obtain ⟨j27, k28, h39⟩ := ob1 h38
        clear h38
        refine g_lald F hw 9 rfl k28 dX5_isAsTold_55 ?_
        refine lv_iload hx hb dX5_isAsTold_56 (lv_at hl 0 rfl) ?_
        refine lv_i2l hx hb dX5_isAsTold_58 rfl ?_
        refine W.lcmp hx hb dX5_isAsTold_59 ?_
        refine lv_if_eq (tgt := 65) hx hb dX5_isAsTold_60 (by decide) (fun c29 => ?_) (fun c29 => ?_)
        · rw [if_pos c29] at h39
          refine lv_iinc (v := (v18 + 1)) (lv' := [(8, .int (v18 + 1)), (9, .int r25), (1, .int i1), (2, .int i2), (3, .int i3), (4, .ref sh0), (5, .int i5), (6, .int i6), (7, .ref ng0)]) hx hb dX5_isAsTold_65 hl (k := 8) rfl rfl (by decide) rfl (fun ls hl => ?_)
          refine lv_goto (tgt := 12) hx hb dX5_isAsTold_68 (by decide) ?_
          exact ih20 (v18 + 1) _ _ _ hw (lv_sub hl [2, 3, 4, 5, 6, 7, 8, 0] rfl) h39
        · rw [if_neg c29] at h39
          refine lv_iconst (v := 0) hx hb dX5_isAsTold_63 (by decide) ?_
          cases hretl _ (Option.some.inj h39).symm
          exact hret _ _ _ _ rfl hw dX5_isAsTold_64
  exact loop21 fl 0 _ _ _ hw (lv_sub hl [3, 4, 5, 6, 7, 8, 1, 0] rfl) h32
theorem cal_X5_kindsTold : CalV yX5_kindsTold cX5_kindsTold 8 (some .int) RX5 4 := ⟨t_683, t_682, t_0, t_37, by decide +kernel⟩
set_option maxHeartbeats 4000000 in
set_option maxRecDepth 100000 in
theorem cX5_kindsTold_ok (l : Launch) (d : va_G) (cy : Nat → ClassId) (xx0 nw0 nw1 nw2 ng0 ng1 ng2 ng3 sh0 sh1 ps0 kp0 kq0 tr0 tp0 hs0 : Nat) (xx_isKept : Int32) (nw_people : Int32) (nw_fewest : Int32) (nw_kinds : Nat → Int32) (nw_loves : Nat → Int32) (ng_many : Nat → Int32) (ng_sets : Nat → Int32) (ng_chalk : Nat → Int32) (ng_wet : Int32) (ng_harvest : Int32) (ng_draw : Int32) (sh_items : Nat → Int64) (sh_lane : Int32) (sh_size : Int32) (i1 : Int32) (i3 : Int32) (i4 : Int32) (r : Int32) (h0 : fX5_kindsTold nw_loves ng_sets ng_wet ng_harvest sh_items i1 i3 i4 = some (r)) : CI l yX5_kindsTold cX5_kindsTold 8 (some .int) 3 78 d cy [.ref xx0, .int i1, .ref sh0, .int i3, .int i4] (List.flatten [wX cy xx0 nw0 ps0 kp0 kq0 tr0 tp0 hs0 xx_isKept, wT cy nw0 nw1 nw2 ng0 nw_people nw_fewest nw_kinds nw_loves, wG cy ng0 ng1 ng2 ng3 ng_many ng_sets ng_chalk ng_wet ng_harvest ng_draw, wS cy sh0 sh1 sh_items sh_lane sh_size]) (List.flatten [wX cy xx0 nw0 ps0 kp0 kq0 tr0 tp0 hs0 xx_isKept, wT cy nw0 nw1 nw2 ng0 nw_people nw_fewest nw_kinds nw_loves, wG cy ng0 ng1 ng2 ng3 ng_many ng_sets ng_chalk ng_wet ng_harvest ng_draw, wS cy sh0 sh1 sh_items sh_lane sh_size]) r := by
  refine CI.of (by decide) (Nat.le_of_ble_eq_true rfl) ?_
  intro p e s m args below meth c A ls Q F hret hw hl
  have hx := F.1
  have hb := F.2.1
  have hl : lv_has ls 8 [(0, .ref xx0), (1, .int i1), (2, .ref sh0), (3, .int i3), (4, .int i4)] := hl
  rw [fX5_kindsTold] at h0
  refine lv_aload_n hx hb dX5_kindsTold_0 rfl (lv_at hl 0 rfl) ?_
  refine g_get F inG5 hw 0 rfl rfl 0 (by decide) t_185 (fun _ h9 => h9) rfl dX5_kindsTold_1 ?_
  refine lv_iload_n hx hb dX5_kindsTold_4 rfl (lv_at hl 1 rfl) ?_
  refine lv_aload_n hx hb dX5_kindsTold_5 rfl (lv_at hl 0 rfl) ?_
  refine g_get F inG5 hw 0 rfl rfl 0 (by decide) t_185 (fun _ h9 => h9) rfl dX5_kindsTold_6 ?_
  refine g_get F inG4 hw 1 rfl rfl 3 (by decide) t_112 (fun _ h9 => h9) rfl dX5_kindsTold_9 ?_
  refine lv_iload_n hx hb dX5_kindsTold_12 rfl (lv_at hl 1 rfl) ?_
  obtain ⟨j1, k2, h34⟩ := ob1 h0
  clear h0
  refine g_iald F hw 3 rfl k2 dX5_kindsTold_13 ?_
  obtain ⟨r3, k4, h35⟩ := ob1 h34
  clear h34
  refine g_vi F (cX4_lovedSet_ok l d cy nw0 nw1 nw2 ng0 ng1 ng2 ng3 nw_people nw_fewest nw_kinds nw_loves ng_many ng_sets ng_chalk ng_wet ng_harvest ng_draw i1 (nw_loves j1) r3 k4) cal_X4_lovedSet t_684 rfl ⟨by decide, by decide⟩ hw (w' := List.flatten [wX cy xx0 nw0 ps0 kp0 kq0 tr0 tp0 hs0 xx_isKept, wT cy nw0 nw1 nw2 ng0 nw_people nw_fewest nw_kinds nw_loves, wG cy ng0 ng1 ng2 ng3 ng_many ng_sets ng_chalk ng_wet ng_harvest ng_draw, wS cy sh0 sh1 sh_items sh_lane sh_size]) (SCut.cut (SCut.skip (SCut.take SCut.rf (SCut.take SCut.rf (SCut.skip SCut.none))))) 0 4 rfl rfl hl.1 (Nat.le_of_ble_eq_true rfl) rfl dX5_kindsTold_14 (fun H locs hw => ?_)
  refine lv_istore (lv' := [(5, .int r3), (0, .ref xx0), (1, .int i1), (2, .ref sh0), (3, .int i3), (4, .int i4)]) hx hb dX5_kindsTold_17 hl (by decide) rfl (fun ls hl => ?_)
  refine lv_iconst (v := 0) hx hb dX5_kindsTold_19 (by decide) ?_
  refine lv_istore (lv' := [(6, .int 0), (5, .int r3), (0, .ref xx0), (1, .int i1), (2, .ref sh0), (3, .int i3), (4, .int i4)]) hx hb dX5_kindsTold_20 hl (by decide) rfl (fun ls hl => ?_)
  refine lv_iconst (v := 0) hx hb dX5_kindsTold_22 (by decide) ?_
  refine lv_istore (lv' := [(7, .int 0), (6, .int 0), (5, .int r3), (0, .ref xx0), (1, .int i1), (2, .ref sh0), (3, .int i3), (4, .int i4)]) hx hb dX5_kindsTold_23 hl (by decide) rfl (fun ls hl => ?_)
  obtain ⟨o26, h36, h37⟩ := ob1 h35
  clear h35
  have kont23 : ∀ (H : Heap) (locs : List Loc) (ls : Array Slot), Wd d A s.heap (List.flatten [wX cy xx0 nw0 ps0 kp0 kq0 tr0 tp0 hs0 xx_isKept, wT cy nw0 nw1 nw2 ng0 nw_people nw_fewest nw_kinds nw_loves, wG cy ng0 ng1 ng2 ng3 ng_many ng_sets ng_chalk ng_wet ng_harvest ng_draw, wS cy sh0 sh1 sh_items sh_lane sh_size]) H locs → lv_has ls 8 [(6, .int o26)] → W p l e (rmo 3 78) s m args below meth c H locs 0 0 Q (F0 m 62 ls []) := by
    intro H locs ls hw hl
    clear h36
    refine lv_iload hx hb dX5_kindsTold_62 (lv_at hl 0 rfl) ?_
    obtain rfl := inj1 h37
    exact hret _ _ _ _ hw dX5_kindsTold_64
  clear h37
  have loop25 : ∀ (n : Nat) (v21 : Int32) (v22 : Int32) (H : Heap) (locs : List Loc) (ls : Array Slot), Wd d A s.heap (List.flatten [wX cy xx0 nw0 ps0 kp0 kq0 tr0 tp0 hs0 xx_isKept, wT cy nw0 nw1 nw2 ng0 nw_people nw_fewest nw_kinds nw_loves, wG cy ng0 ng1 ng2 ng3 ng_many ng_sets ng_chalk ng_wet ng_harvest ng_draw, wS cy sh0 sh1 sh_items sh_lane sh_size]) H locs → lv_has ls 8 [(0, .ref xx0), (1, .int i1), (2, .ref sh0), (3, .int i3), (4, .int i4), (5, .int r3), (6, .int v21), (7, .int v22)] → fX5_kindsTold_L25 i1 i3 i4 ng_harvest ng_sets ng_wet sh_items r3 n v21 v22 = some (o26) → W p l e (rmo 3 78) s m args below meth c H locs 0 0 Q (F0 m 25 ls []) := by
    intro n
    induction n with
    | zero =>
      intro v21 v22 H locs ls hw hl h38
      rw [fX5_kindsTold_L25] at h38
      cases h38
    | succ n ih24 =>
      intro v21 v22 H locs ls hw hl h39
      rw [fX5_kindsTold_L25] at h39
      refine lv_iload hx hb dX5_kindsTold_25 (lv_at hl 7 rfl) ?_
      refine lv_iconst (v := 5) hx hb dX5_kindsTold_27 (by decide) ?_
      refine lv_icmp_ge (tgt := 62) hx hb dX5_kindsTold_28 (by decide) (fun c27 => ?_) (fun c27 => ?_)
      · rw [if_pos c27] at h39
        obtain rfl := inj1 h39
        exact kont23 _ _ _ hw (lv_sub hl [6] rfl)
      · rw [if_neg c27] at h39
        refine lv_aload_n hx hb dX5_kindsTold_31 rfl (lv_at hl 0 rfl) ?_
        refine lv_iload_n hx hb dX5_kindsTold_32 rfl (lv_at hl 1 rfl) ?_
        refine lv_iload hx hb dX5_kindsTold_33 (lv_at hl 7 rfl) ?_
        refine lv_iload hx hb dX5_kindsTold_35 (lv_at hl 5 rfl) ?_
        refine lv_aload_n hx hb dX5_kindsTold_37 rfl (lv_at hl 2 rfl) ?_
        refine lv_iload_n hx hb dX5_kindsTold_38 rfl (lv_at hl 3 rfl) ?_
        refine lv_iload hx hb dX5_kindsTold_39 (lv_at hl 4 rfl) ?_
        obtain ⟨r28, k29, h40⟩ := ob1 h39
        clear h39
        refine g_vi F (cX5_isAsTold_ok l d cy xx0 nw0 nw1 nw2 ng0 ng1 ng2 ng3 sh0 sh1 ps0 kp0 kq0 tr0 tp0 hs0 xx_isKept nw_people nw_fewest nw_kinds nw_loves ng_many ng_sets ng_chalk ng_wet ng_harvest ng_draw sh_items sh_lane sh_size i1 v22 r3 i3 i4 r28 k29) cal_X5_isAsTold t_685 rfl ⟨by decide, by decide⟩ hw (w' := List.flatten [wX cy xx0 nw0 ps0 kp0 kq0 tr0 tp0 hs0 xx_isKept, wT cy nw0 nw1 nw2 ng0 nw_people nw_fewest nw_kinds nw_loves, wG cy ng0 ng1 ng2 ng3 ng_many ng_sets ng_chalk ng_wet ng_harvest ng_draw, wS cy sh0 sh1 sh_items sh_lane sh_size]) Cut.all 0 5 rfl rfl hl.1 (Nat.le_of_ble_eq_true rfl) rfl dX5_kindsTold_41 (fun H locs hw => ?_)
        obtain ⟨x31, h41, h42⟩ := ob1 h40
        clear h40
        have kont32 : ∀ (H : Heap) (locs : List Loc) (ls : Array Slot), Wd d A s.heap (List.flatten [wX cy xx0 nw0 ps0 kp0 kq0 tr0 tp0 hs0 xx_isKept, wT cy nw0 nw1 nw2 ng0 nw_people nw_fewest nw_kinds nw_loves, wG cy ng0 ng1 ng2 ng3 ng_many ng_sets ng_chalk ng_wet ng_harvest ng_draw, wS cy sh0 sh1 sh_items sh_lane sh_size]) H locs → lv_has ls 8 [(0, .ref xx0), (1, .int i1), (2, .ref sh0), (3, .int i3), (4, .int i4), (5, .int r3), (6, .int x31), (7, .int v22)] → W p l e (rmo 3 78) s m args below meth c H locs 0 0 Q (F0 m 56 ls []) := by
          intro H locs ls hw hl
          clear h41
          refine lv_iinc (v := (v22 + 1)) (lv' := [(7, .int (v22 + 1)), (0, .ref xx0), (1, .int i1), (2, .ref sh0), (3, .int i3), (4, .int i4), (5, .int r3), (6, .int x31)]) hx hb dX5_kindsTold_56 hl (k := 7) rfl rfl (by decide) rfl (fun ls hl => ?_)
          refine lv_goto (tgt := 25) hx hb dX5_kindsTold_59 (by decide) ?_
          exact ih24 x31 (v22 + 1) _ _ _ hw (lv_sub hl [1, 2, 3, 4, 5, 6, 7, 0] rfl) h42
        clear h42
        refine lv_if_eq (tgt := 56) hx hb dX5_kindsTold_44 (by decide) (fun c33 => ?_) (fun c33 => ?_)
        · rw [if_pos c33] at h41
          obtain rfl := inj1 h41
          exact kont32 _ _ _ hw (lv_sub hl [0, 1, 2, 3, 4, 5, 6, 7] rfl)
        · rw [if_neg c33] at h41
          refine lv_iload hx hb dX5_kindsTold_47 (lv_at hl 6 rfl) ?_
          refine lv_iconst (v := 1) hx hb dX5_kindsTold_49 (by decide) ?_
          refine lv_iload hx hb dX5_kindsTold_50 (lv_at hl 7 rfl) ?_
          refine lv_ishl hx hb dX5_kindsTold_52 ?_
          refine lv_ior hx hb dX5_kindsTold_53 ?_
          refine lv_istore (lv' := [(6, .int (v21 ||| ((1 : Int32) <<< (v22 &&& 31)))), (0, .ref xx0), (1, .int i1), (2, .ref sh0), (3, .int i3), (4, .int i4), (5, .int r3), (7, .int v22)]) hx hb dX5_kindsTold_54 hl (by decide) rfl (fun ls hl => ?_)
          obtain rfl := inj1 h41
          exact kont32 _ _ _ hw (lv_sub hl [1, 2, 3, 4, 5, 6, 0, 7] rfl)
  exact loop25 fl 0 0 _ _ _ hw (lv_sub hl [3, 4, 5, 6, 7, 2, 1, 0] rfl) h36
theorem cal_X5_lovesTold : CalV yX5_lovesTold cX5_lovesTold 7 (some .int) RX5 4 := ⟨t_693, t_692, t_2, t_37, by decide +kernel⟩
set_option maxHeartbeats 4000000 in
set_option maxRecDepth 100000 in
theorem cX5_lovesTold_ok (l : Launch) (d : va_G) (cy : Nat → ClassId) (xx0 nw0 nw1 nw2 ng0 ng1 ng2 ng3 sh0 sh1 ps0 kp0 kq0 tr0 tp0 hs0 : Nat) (xx_isKept : Int32) (nw_people : Int32) (nw_fewest : Int32) (nw_kinds : Nat → Int32) (nw_loves : Nat → Int32) (ng_many : Nat → Int32) (ng_sets : Nat → Int32) (ng_chalk : Nat → Int32) (ng_wet : Int32) (ng_harvest : Int32) (ng_draw : Int32) (sh_items : Nat → Int64) (sh_lane : Int32) (sh_size : Int32) (i1 : Int32) (i3 : Int32) (i4 : Int32) (r : Int32) (h0 : fX5_lovesTold nw_people nw_kinds ng_sets ng_wet ng_harvest sh_items i1 i3 i4 = some (r)) : CI l yX5_lovesTold cX5_lovesTold 7 (some .int) 3 78 d cy [.ref xx0, .int i1, .ref sh0, .int i3, .int i4] (List.flatten [wX cy xx0 nw0 ps0 kp0 kq0 tr0 tp0 hs0 xx_isKept, wT cy nw0 nw1 nw2 ng0 nw_people nw_fewest nw_kinds nw_loves, wG cy ng0 ng1 ng2 ng3 ng_many ng_sets ng_chalk ng_wet ng_harvest ng_draw, wS cy sh0 sh1 sh_items sh_lane sh_size]) (List.flatten [wX cy xx0 nw0 ps0 kp0 kq0 tr0 tp0 hs0 xx_isKept, wT cy nw0 nw1 nw2 ng0 nw_people nw_fewest nw_kinds nw_loves, wG cy ng0 ng1 ng2 ng3 ng_many ng_sets ng_chalk ng_wet ng_harvest ng_draw, wS cy sh0 sh1 sh_items sh_lane sh_size]) r := by
  refine CI.of (by decide) (Nat.le_of_ble_eq_true rfl) ?_
  intro p e s m args below meth c A ls Q F hret hw hl
  have hx := F.1
  have hb := F.2.1
  have hl : lv_has ls 7 [(0, .ref xx0), (1, .int i1), (2, .ref sh0), (3, .int i3), (4, .int i4)] := hl
  rw [fX5_lovesTold] at h0
  refine lv_iconst (v := 0) hx hb dX5_lovesTold_0 (by decide) ?_
  refine lv_istore (lv' := [(5, .int 0), (0, .ref xx0), (1, .int i1), (2, .ref sh0), (3, .int i3), (4, .int i4)]) hx hb dX5_lovesTold_1 hl (by decide) rfl (fun ls hl => ?_)
  refine lv_iconst (v := 0) hx hb dX5_lovesTold_3 (by decide) ?_
  refine lv_istore (lv' := [(6, .int 0), (5, .int 0), (0, .ref xx0), (1, .int i1), (2, .ref sh0), (3, .int i3), (4, .int i4)]) hx hb dX5_lovesTold_4 hl (by decide) rfl (fun ls hl => ?_)
  obtain ⟨o30, h42, h43⟩ := ob1 h0
  clear h0
  have kont27 : ∀ (H : Heap) (locs : List Loc) (ls : Array Slot), Wd d A s.heap (List.flatten [wX cy xx0 nw0 ps0 kp0 kq0 tr0 tp0 hs0 xx_isKept, wT cy nw0 nw1 nw2 ng0 nw_people nw_fewest nw_kinds nw_loves, wG cy ng0 ng1 ng2 ng3 ng_many ng_sets ng_chalk ng_wet ng_harvest ng_draw, wS cy sh0 sh1 sh_items sh_lane sh_size]) H locs → lv_has ls 7 [(5, .int o30)] → W p l e (rmo 3 78) s m args below meth c H locs 0 0 Q (F0 m 64 ls []) := by
    intro H locs ls hw hl
    clear h42
    refine lv_iload hx hb dX5_lovesTold_64 (lv_at hl 0 rfl) ?_
    obtain rfl := inj1 h43
    exact hret _ _ _ _ hw dX5_lovesTold_66
  clear h43
  have loop29 : ∀ (n : Nat) (v25 : Int32) (v26 : Int32) (H : Heap) (locs : List Loc) (ls : Array Slot), Wd d A s.heap (List.flatten [wX cy xx0 nw0 ps0 kp0 kq0 tr0 tp0 hs0 xx_isKept, wT cy nw0 nw1 nw2 ng0 nw_people nw_fewest nw_kinds nw_loves, wG cy ng0 ng1 ng2 ng3 ng_many ng_sets ng_chalk ng_wet ng_harvest ng_draw, wS cy sh0 sh1 sh_items sh_lane sh_size]) H locs → lv_has ls 7 [(0, .ref xx0), (1, .int i1), (2, .ref sh0), (3, .int i3), (4, .int i4), (5, .int v25), (6, .int v26)] → fX5_lovesTold_L6 i1 i3 i4 ng_harvest ng_sets ng_wet nw_kinds nw_people sh_items n v25 v26 = some (o30) → W p l e (rmo 3 78) s m args below meth c H locs 0 0 Q (F0 m 6 ls []) := by
    intro n
    induction n with
    | zero =>
      intro v25 v26 H locs ls hw hl h44
      rw [fX5_lovesTold_L6] at h44
      cases h44
    | succ n ih28 =>
      intro v25 v26 H locs ls hw hl h45
      rw [fX5_lovesTold_L6] at h45
      refine lv_iload hx hb dX5_lovesTold_6 (lv_at hl 6 rfl) ?_
      refine lv_aload_n hx hb dX5_lovesTold_8 rfl (lv_at hl 0 rfl) ?_
      refine g_get F inG5 hw 0 rfl rfl 0 (by decide) t_185 (fun _ h9 => h9) rfl dX5_lovesTold_9 ?_
      refine g_get F inG4 hw 1 rfl rfl 0 (by decide) t_105 (fun _ h9 => h9) rfl dX5_lovesTold_12 ?_
      refine lv_icmp_ge (tgt := 64) hx hb dX5_lovesTold_15 (by decide) (fun c31 => ?_) (fun c31 => ?_)
      · rw [if_pos c31] at h45
        obtain rfl := inj1 h45
        exact kont27 _ _ _ hw (lv_sub hl [5] rfl)
      · rw [if_neg c31] at h45
        refine lv_aload_n hx hb dX5_lovesTold_18 rfl (lv_at hl 0 rfl) ?_
        refine lv_iload_n hx hb dX5_lovesTold_19 rfl (lv_at hl 1 rfl) ?_
        refine lv_aload_n hx hb dX5_lovesTold_20 rfl (lv_at hl 0 rfl) ?_
        refine g_get F inG5 hw 0 rfl rfl 0 (by decide) t_185 (fun _ h9 => h9) rfl dX5_lovesTold_21 ?_
        refine g_get F inG4 hw 1 rfl rfl 2 (by decide) t_110 (fun _ h9 => h9) rfl dX5_lovesTold_24 ?_
        refine lv_iload_n hx hb dX5_lovesTold_27 rfl (lv_at hl 1 rfl) ?_
        obtain ⟨j32, k33, h46⟩ := ob1 h45
        clear h45
        refine g_iald F hw 2 rfl k33 dX5_lovesTold_28 ?_
        refine lv_aload_n hx hb dX5_lovesTold_29 rfl (lv_at hl 0 rfl) ?_
        refine g_get F inG5 hw 0 rfl rfl 0 (by decide) t_185 (fun _ h9 => h9) rfl dX5_lovesTold_30 ?_
        refine lv_iload_n hx hb dX5_lovesTold_33 rfl (lv_at hl 1 rfl) ?_
        refine lv_iload hx hb dX5_lovesTold_34 (lv_at hl 6 rfl) ?_
        obtain ⟨r34, k35, h47⟩ := ob1 h46
        clear h46
        refine g_vi F (cX4_lovedSet_ok l d cy nw0 nw1 nw2 ng0 ng1 ng2 ng3 nw_people nw_fewest nw_kinds nw_loves ng_many ng_sets ng_chalk ng_wet ng_harvest ng_draw i1 v26 r34 k35) cal_X4_lovedSet t_684 rfl ⟨by decide, by decide⟩ hw (w' := List.flatten [wX cy xx0 nw0 ps0 kp0 kq0 tr0 tp0 hs0 xx_isKept, wT cy nw0 nw1 nw2 ng0 nw_people nw_fewest nw_kinds nw_loves, wG cy ng0 ng1 ng2 ng3 ng_many ng_sets ng_chalk ng_wet ng_harvest ng_draw, wS cy sh0 sh1 sh_items sh_lane sh_size]) (SCut.cut (SCut.skip (SCut.take SCut.rf (SCut.take SCut.rf (SCut.skip SCut.none))))) 0 4 rfl rfl hl.1 (Nat.le_of_ble_eq_true rfl) rfl dX5_lovesTold_36 (fun H locs hw => ?_)
        refine lv_aload_n hx hb dX5_lovesTold_39 rfl (lv_at hl 2 rfl) ?_
        refine lv_iload_n hx hb dX5_lovesTold_40 rfl (lv_at hl 3 rfl) ?_
        refine lv_iload hx hb dX5_lovesTold_41 (lv_at hl 4 rfl) ?_
        obtain ⟨r36, k37, h48⟩ := ob1 h47
        clear h47
        refine g_vi F (cX5_isAsTold_ok l d cy xx0 nw0 nw1 nw2 ng0 ng1 ng2 ng3 sh0 sh1 ps0 kp0 kq0 tr0 tp0 hs0 xx_isKept nw_people nw_fewest nw_kinds nw_loves ng_many ng_sets ng_chalk ng_wet ng_harvest ng_draw sh_items sh_lane sh_size i1 (nw_kinds j32) r34 i3 i4 r36 k37) cal_X5_isAsTold t_685 rfl ⟨by decide, by decide⟩ hw (w' := List.flatten [wX cy xx0 nw0 ps0 kp0 kq0 tr0 tp0 hs0 xx_isKept, wT cy nw0 nw1 nw2 ng0 nw_people nw_fewest nw_kinds nw_loves, wG cy ng0 ng1 ng2 ng3 ng_many ng_sets ng_chalk ng_wet ng_harvest ng_draw, wS cy sh0 sh1 sh_items sh_lane sh_size]) Cut.all 0 5 rfl rfl hl.1 (Nat.le_of_ble_eq_true rfl) rfl dX5_lovesTold_43 (fun H locs hw => ?_)
        obtain ⟨x39, h49, h50⟩ := ob1 h48
        clear h48
        have kont40 : ∀ (H : Heap) (locs : List Loc) (ls : Array Slot), Wd d A s.heap (List.flatten [wX cy xx0 nw0 ps0 kp0 kq0 tr0 tp0 hs0 xx_isKept, wT cy nw0 nw1 nw2 ng0 nw_people nw_fewest nw_kinds nw_loves, wG cy ng0 ng1 ng2 ng3 ng_many ng_sets ng_chalk ng_wet ng_harvest ng_draw, wS cy sh0 sh1 sh_items sh_lane sh_size]) H locs → lv_has ls 7 [(0, .ref xx0), (1, .int i1), (2, .ref sh0), (3, .int i3), (4, .int i4), (5, .int x39), (6, .int v26)] → W p l e (rmo 3 78) s m args below meth c H locs 0 0 Q (F0 m 58 ls []) := by
          intro H locs ls hw hl
          clear h49
          refine lv_iinc (v := (v26 + 1)) (lv' := [(6, .int (v26 + 1)), (0, .ref xx0), (1, .int i1), (2, .ref sh0), (3, .int i3), (4, .int i4), (5, .int x39)]) hx hb dX5_lovesTold_58 hl (k := 6) rfl rfl (by decide) rfl (fun ls hl => ?_)
          refine lv_goto (tgt := 6) hx hb dX5_lovesTold_61 (by decide) ?_
          exact ih28 x39 (v26 + 1) _ _ _ hw (lv_sub hl [1, 2, 3, 4, 5, 6, 0] rfl) h50
        clear h50
        refine lv_if_eq (tgt := 58) hx hb dX5_lovesTold_46 (by decide) (fun c41 => ?_) (fun c41 => ?_)
        · rw [if_pos c41] at h49
          obtain rfl := inj1 h49
          exact kont40 _ _ _ hw (lv_sub hl [0, 1, 2, 3, 4, 5, 6] rfl)
        · rw [if_neg c41] at h49
          refine lv_iload hx hb dX5_lovesTold_49 (lv_at hl 5 rfl) ?_
          refine lv_iconst (v := 1) hx hb dX5_lovesTold_51 (by decide) ?_
          refine lv_iload hx hb dX5_lovesTold_52 (lv_at hl 6 rfl) ?_
          refine lv_ishl hx hb dX5_lovesTold_54 ?_
          refine lv_ior hx hb dX5_lovesTold_55 ?_
          refine lv_istore (lv' := [(5, .int (v25 ||| ((1 : Int32) <<< (v26 &&& 31)))), (0, .ref xx0), (1, .int i1), (2, .ref sh0), (3, .int i3), (4, .int i4), (6, .int v26)]) hx hb dX5_lovesTold_56 hl (by decide) rfl (fun ls hl => ?_)
          obtain rfl := inj1 h49
          exact kont40 _ _ _ hw (lv_sub hl [1, 2, 3, 4, 5, 0, 6] rfl)
  exact loop29 fl 0 0 _ _ _ hw (lv_sub hl [2, 3, 4, 5, 6, 1, 0] rfl) h42
theorem cal_X5_told : CalV yX5_told cX5_told 9 (some .int) RX5 6 := ⟨t_665, t_663, t_664, t_37, by decide +kernel⟩
set_option maxHeartbeats 4000000 in
set_option maxRecDepth 100000 in
theorem cX5_told_ok (l : Launch) (d : va_G) (cy : Nat → ClassId) (xx0 nw0 nw1 nw2 ng0 ng1 ng2 ng3 hs0 ps0 kp0 kq0 tr0 tp0 : Nat) (xx_isKept : Int32) (nw_people : Int32) (nw_fewest : Int32) (nw_kinds : Nat → Int32) (nw_loves : Nat → Int32) (ng_many : Nat → Int32) (ng_sets : Nat → Int32) (ng_chalk : Nat → Int32) (ng_wet : Int32) (ng_harvest : Int32) (ng_draw : Int32) (hs_r0 : Nat → Nat) (hs_r1 : Nat → Nat) (hs_items : Nat → Nat → Int64) (hs_lane : Nat → Int32) (hs_size : Nat → Int32) (i1 : Int32) (i2 : Int32) (i3 : Int32) (i4 : Int32) (i5 : Int32) (i6 : Int32) (r : Int32) (h0 : fX5_told nw_people nw_kinds nw_loves ng_sets ng_wet ng_harvest hs_items hs_lane hs_size i1 i2 i3 i4 i5 i6 = some (r)) : CI l yX5_told cX5_told 9 (some .int) 4 105 d cy [.ref xx0, .int i1, .int i2, .int i3, .int i4, .int i5, .int i6] (List.flatten [wX cy xx0 nw0 ps0 kp0 kq0 tr0 tp0 hs0 xx_isKept, wT cy nw0 nw1 nw2 ng0 nw_people nw_fewest nw_kinds nw_loves, wG cy ng0 ng1 ng2 ng3 ng_many ng_sets ng_chalk ng_wet ng_harvest ng_draw, wH cy hs0 hs_r0 hs_r1 hs_items hs_lane hs_size]) (List.flatten [wX cy xx0 nw0 ps0 kp0 kq0 tr0 tp0 hs0 xx_isKept, wT cy nw0 nw1 nw2 ng0 nw_people nw_fewest nw_kinds nw_loves, wG cy ng0 ng1 ng2 ng3 ng_many ng_sets ng_chalk ng_wet ng_harvest ng_draw, wH cy hs0 hs_r0 hs_r1 hs_items hs_lane hs_size]) r := by
  refine CI.of (by decide) (Nat.le_of_ble_eq_true rfl) ?_
  intro p e s m args below meth c A ls Q F hret hw hl
  have hx := F.1
  have hb := F.2.1
  have hl : lv_has ls 9 [(0, .ref xx0), (1, .int i1), (2, .int i2), (3, .int i3), (4, .int i4), (5, .int i5), (6, .int i6)] := hl
  rw [fX5_told] at h0
  refine lv_aload_n hx hb dX5_told_0 rfl (lv_at hl 0 rfl) ?_
  refine g_get F inG5 hw 0 rfl rfl 0 (by decide) t_185 (fun _ h9 => h9) rfl dX5_told_1 ?_
  refine lv_iload_n hx hb dX5_told_4 rfl (lv_at hl 1 rfl) ?_
  obtain ⟨r1, k2, h26⟩ := ob1 h0
  clear h0
  refine g_vi F (cX4_isOne_ok l d cy nw0 nw1 nw2 ng0 ng1 ng2 ng3 nw_people nw_fewest nw_kinds nw_loves ng_many ng_sets ng_chalk ng_wet ng_harvest ng_draw i1 r1 k2) cal_X4_isOne t_233 rfl ⟨by decide, by decide⟩ hw (w' := List.flatten [wX cy xx0 nw0 ps0 kp0 kq0 tr0 tp0 hs0 xx_isKept, wT cy nw0 nw1 nw2 ng0 nw_people nw_fewest nw_kinds nw_loves, wG cy ng0 ng1 ng2 ng3 ng_many ng_sets ng_chalk ng_wet ng_harvest ng_draw, wH cy hs0 hs_r0 hs_r1 hs_items hs_lane hs_size]) (SCut.cut (SCut.skip (SCut.take SCut.rf (SCut.take SCut.rf (SCut.skip SCut.none))))) 0 4 rfl rfl hl.1 (Nat.le_of_ble_eq_true rfl) rfl dX5_told_5 (fun H locs hw => ?_)
  refine lv_if_eq (tgt := 44) hx hb dX5_told_8 (by decide) (fun c3 => ?_) (fun c3 => ?_)
  · rw [if_pos c3] at h26
    refine lv_iconst (v := (-1)) hx hb dX5_told_44 (by decide) ?_
    obtain rfl := inj1 h26
    exact hret _ _ _ _ hw dX5_told_45
  · rw [if_neg c3] at h26
    refine lv_iload_n hx hb dX5_told_11 rfl (lv_at hl 2 rfl) ?_
    obtain ⟨r4, k5, h27⟩ := ob1 h26
    clear h26
    refine g_si F (cX5_isSheet_ok l d cy i2 r4 k5) cal_X5_isSheet t_666 rfl ⟨by decide, by decide⟩ hw (w' := List.flatten [wX cy xx0 nw0 ps0 kp0 kq0 tr0 tp0 hs0 xx_isKept, wT cy nw0 nw1 nw2 ng0 nw_people nw_fewest nw_kinds nw_loves, wG cy ng0 ng1 ng2 ng3 ng_many ng_sets ng_chalk ng_wet ng_harvest ng_draw, wH cy hs0 hs_r0 hs_r1 hs_items hs_lane hs_size]) Cut.nil hl.1 (Nat.le_of_ble_eq_true rfl) rfl dX5_told_12 (fun H locs hw => ?_)
    refine lv_if_eq (tgt := 44) hx hb dX5_told_15 (by decide) (fun c6 => ?_) (fun c6 => ?_)
    · rw [if_pos c6] at h27
      refine lv_iconst (v := (-1)) hx hb dX5_told_44 (by decide) ?_
      obtain rfl := inj1 h27
      exact hret _ _ _ _ hw dX5_told_45
    · rw [if_neg c6] at h27
      refine lv_iload_n hx hb dX5_told_18 rfl (lv_at hl 3 rfl) ?_
      obtain ⟨r7, k8, h28⟩ := ob1 h27
      clear h27
      refine g_si F (cX5_isLane_ok l d cy i3 r7 k8) cal_X5_isLane t_669 rfl ⟨by decide, by decide⟩ hw (w' := List.flatten [wX cy xx0 nw0 ps0 kp0 kq0 tr0 tp0 hs0 xx_isKept, wT cy nw0 nw1 nw2 ng0 nw_people nw_fewest nw_kinds nw_loves, wG cy ng0 ng1 ng2 ng3 ng_many ng_sets ng_chalk ng_wet ng_harvest ng_draw, wH cy hs0 hs_r0 hs_r1 hs_items hs_lane hs_size]) Cut.nil hl.1 (Nat.le_of_ble_eq_true rfl) rfl dX5_told_19 (fun H locs hw => ?_)
      refine lv_if_eq (tgt := 44) hx hb dX5_told_22 (by decide) (fun c9 => ?_) (fun c9 => ?_)
      · rw [if_pos c9] at h28
        refine lv_iconst (v := (-1)) hx hb dX5_told_44 (by decide) ?_
        obtain rfl := inj1 h28
        exact hret _ _ _ _ hw dX5_told_45
      · rw [if_neg c9] at h28
        refine lv_iload hx hb dX5_told_25 (lv_at hl 5 rfl) ?_
        refine lv_iconst (v := 1) hx hb dX5_told_27 (by decide) ?_
        refine lv_bipush (v := 12) hx hb dX5_told_28 (by decide) ?_
        obtain ⟨r10, k11, h29⟩ := ob1 h28
        clear h28
        refine g_si F (cX5_isWithin_ok l d cy i5 1 12 r10 k11) cal_X5_isWithin t_214 rfl ⟨by decide, by decide⟩ hw (w' := List.flatten [wX cy xx0 nw0 ps0 kp0 kq0 tr0 tp0 hs0 xx_isKept, wT cy nw0 nw1 nw2 ng0 nw_people nw_fewest nw_kinds nw_loves, wG cy ng0 ng1 ng2 ng3 ng_many ng_sets ng_chalk ng_wet ng_harvest ng_draw, wH cy hs0 hs_r0 hs_r1 hs_items hs_lane hs_size]) Cut.nil hl.1 (Nat.le_of_ble_eq_true rfl) rfl dX5_told_30 (fun H locs hw => ?_)
        refine lv_if_eq (tgt := 44) hx hb dX5_told_33 (by decide) (fun c12 => ?_) (fun c12 => ?_)
        · rw [if_pos c12] at h29
          refine lv_iconst (v := (-1)) hx hb dX5_told_44 (by decide) ?_
          obtain rfl := inj1 h29
          exact hret _ _ _ _ hw dX5_told_45
        · rw [if_neg c12] at h29
          refine lv_iload hx hb dX5_told_36 (lv_at hl 6 rfl) ?_
          obtain ⟨r13, k14, h30⟩ := ob1 h29
          clear h29
          refine g_si F (cX5_isFlag_ok l d cy i6 r13 k14) cal_X5_isFlag t_278 rfl ⟨by decide, by decide⟩ hw (w' := List.flatten [wX cy xx0 nw0 ps0 kp0 kq0 tr0 tp0 hs0 xx_isKept, wT cy nw0 nw1 nw2 ng0 nw_people nw_fewest nw_kinds nw_loves, wG cy ng0 ng1 ng2 ng3 ng_many ng_sets ng_chalk ng_wet ng_harvest ng_draw, wH cy hs0 hs_r0 hs_r1 hs_items hs_lane hs_size]) Cut.nil hl.1 (Nat.le_of_ble_eq_true rfl) rfl dX5_told_38 (fun H locs hw => ?_)
          refine lv_if_ne (tgt := 46) hx hb dX5_told_41 (by decide) (fun c15 => ?_) (fun c15 => ?_)
          · rw [if_neg c15] at h30
            refine lv_aload_n hx hb dX5_told_46 rfl (lv_at hl 0 rfl) ?_
            refine g_get F inG5 hw 0 rfl rfl 7 (by decide) t_192 (fun _ h9 => h9) rfl dX5_told_47 ?_
            refine lv_iload_n hx hb dX5_told_50 rfl (lv_at hl 2 rfl) ?_
            obtain ⟨j16, k17, h31⟩ := ob1 h30
            clear h30
            rcases ix4 k17 with rfl | rfl | rfl | rfl
            · refine g_aald F 4 rfl hw 8 rfl k17 dX5_told_51 ?_
              refine lv_astore (lv' := [(7, .ref (hs_r0 0)), (0, .ref xx0), (1, .int i1), (2, .int i2), (3, .int i3), (4, .int i4), (5, .int i5), (6, .int i6)]) hx hb dX5_told_52 hl (by decide) rfl (fun ls hl => ?_)
              refine lv_aload hx hb dX5_told_54 (lv_at hl 0 rfl) ?_
              refine lv_iload_n hx hb dX5_told_56 rfl (lv_at hl 4 rfl) ?_
              refine lv_iload hx hb dX5_told_57 (lv_at hl 5 rfl) ?_
              refine lv_iload hx hb dX5_told_59 (lv_at hl 6 rfl) ?_
              obtain ⟨r18, k19, h32⟩ := ob1 h31
              clear h31
              refine g_vi F (cX2_troubleOf_ok l d cy (hs_r0 0) (hs_r1 0) (hs_items 0) (hs_lane 0) (hs_size 0) i3 i4 i5 r18 k19) cal_X2_troubleOf t_672 rfl ⟨by decide, by decide⟩ hw (w' := List.flatten [wX cy xx0 nw0 ps0 kp0 kq0 tr0 tp0 hs0 xx_isKept, wT cy nw0 nw1 nw2 ng0 nw_people nw_fewest nw_kinds nw_loves, wG cy ng0 ng1 ng2 ng3 ng_many ng_sets ng_chalk ng_wet ng_harvest ng_draw, wH cy hs0 hs_r0 hs_r1 hs_items hs_lane hs_size]) (SCut.cut (SCut.one (SCut.skip (SCut.skip (SCut.skip (SCut.take cutH0 SCut.none)))))) 0 2 rfl rfl hl.1 (Nat.le_of_ble_eq_true rfl) rfl dX5_told_61 (fun H locs hw => ?_)
              refine lv_istore (lv' := [(8, .int r18), (7, .ref (hs_r0 0)), (0, .ref xx0), (1, .int i1), (2, .int i2), (3, .int i3), (4, .int i4), (5, .int i5), (6, .int i6)]) hx hb dX5_told_64 hl (by decide) rfl (fun ls hl => ?_)
              refine lv_iload hx hb dX5_told_66 (lv_at hl 0 rfl) ?_
              refine lv_if_eq (tgt := 74) hx hb dX5_told_68 (by decide) (fun c20 => ?_) (fun c20 => ?_)
              · rw [if_pos c20] at h32
                refine lv_iload hx hb dX5_told_74 (lv_at hl 8 rfl) ?_
                refine lv_if_ne (tgt := 93) hx hb dX5_told_76 (by decide) (fun c21 => ?_) (fun c21 => ?_)
                · rw [if_neg c21] at h32
                  refine lv_aload_n hx hb dX5_told_93 rfl (lv_at hl 2 rfl) ?_
                  refine lv_iload_n hx hb dX5_told_94 rfl (lv_at hl 3 rfl) ?_
                  refine lv_aload hx hb dX5_told_95 (lv_at hl 1 rfl) ?_
                  refine lv_iload hx hb dX5_told_97 (lv_at hl 6 rfl) ?_
                  refine lv_iload hx hb dX5_told_99 (lv_at hl 7 rfl) ?_
                  obtain ⟨r22, k23, h33⟩ := ob1 h32
                  clear h32
                  refine g_vi F (cX5_lovesTold_ok l d cy xx0 nw0 nw1 nw2 ng0 ng1 ng2 ng3 (hs_r0 0) (hs_r1 0) ps0 kp0 kq0 tr0 tp0 hs0 xx_isKept nw_people nw_fewest nw_kinds nw_loves ng_many ng_sets ng_chalk ng_wet ng_harvest ng_draw (hs_items 0) (hs_lane 0) (hs_size 0) i1 i4 i5 r22 k23) cal_X5_lovesTold t_690 rfl ⟨by decide, by decide⟩ hw (w' := List.flatten [wX cy xx0 nw0 ps0 kp0 kq0 tr0 tp0 hs0 xx_isKept, wT cy nw0 nw1 nw2 ng0 nw_people nw_fewest nw_kinds nw_loves, wG cy ng0 ng1 ng2 ng3 ng_many ng_sets ng_chalk ng_wet ng_harvest ng_draw, wH cy hs0 hs_r0 hs_r1 hs_items hs_lane hs_size]) (SCut.cut (SCut.take SCut.rf (SCut.take SCut.rf (SCut.take SCut.rf (SCut.take cutH0 SCut.none))))) 0 5 rfl rfl hl.1 (Nat.le_of_ble_eq_true rfl) rfl dX5_told_101 (fun H locs hw => ?_)
                  obtain rfl := inj1 h33
                  exact hret _ _ _ _ hw dX5_told_104
                · rw [if_pos c21] at h32
                  refine lv_aload_n hx hb dX5_told_79 rfl (lv_at hl 2 rfl) ?_
                  refine lv_iload_n hx hb dX5_told_80 rfl (lv_at hl 3 rfl) ?_
                  refine lv_aload hx hb dX5_told_81 (lv_at hl 1 rfl) ?_
                  refine lv_iload hx hb dX5_told_83 (lv_at hl 6 rfl) ?_
                  refine lv_iload hx hb dX5_told_85 (lv_at hl 7 rfl) ?_
                  obtain ⟨r24, k25, h34⟩ := ob1 h32
                  clear h32
                  refine g_vi F (cX5_kindsTold_ok l d cy xx0 nw0 nw1 nw2 ng0 ng1 ng2 ng3 (hs_r0 0) (hs_r1 0) ps0 kp0 kq0 tr0 tp0 hs0 xx_isKept nw_people nw_fewest nw_kinds nw_loves ng_many ng_sets ng_chalk ng_wet ng_harvest ng_draw (hs_items 0) (hs_lane 0) (hs_size 0) i1 i4 i5 r24 k25) cal_X5_kindsTold t_680 rfl ⟨by decide, by decide⟩ hw (w' := List.flatten [wX cy xx0 nw0 ps0 kp0 kq0 tr0 tp0 hs0 xx_isKept, wT cy nw0 nw1 nw2 ng0 nw_people nw_fewest nw_kinds nw_loves, wG cy ng0 ng1 ng2 ng3 ng_many ng_sets ng_chalk ng_wet ng_harvest ng_draw, wH cy hs0 hs_r0 hs_r1 hs_items hs_lane hs_size]) (SCut.cut (SCut.take SCut.rf (SCut.take SCut.rf (SCut.take SCut.rf (SCut.take cutH0 SCut.none))))) 0 5 rfl rfl hl.1 (Nat.le_of_ble_eq_true rfl) rfl dX5_told_87 (fun H locs hw => ?_)
                  refine lv_goto (tgt := 104) hx hb dX5_told_90 (by decide) ?_
                  obtain rfl := inj1 h34
                  exact hret _ _ _ _ hw dX5_told_104
              · rw [if_neg c20] at h32
                refine lv_iload hx hb dX5_told_71 (lv_at hl 0 rfl) ?_
                obtain rfl := inj1 h32
                exact hret _ _ _ _ hw dX5_told_73
            · refine g_aald F 4 rfl hw 8 rfl k17 dX5_told_51 ?_
              refine lv_astore (lv' := [(7, .ref (hs_r0 1)), (0, .ref xx0), (1, .int i1), (2, .int i2), (3, .int i3), (4, .int i4), (5, .int i5), (6, .int i6)]) hx hb dX5_told_52 hl (by decide) rfl (fun ls hl => ?_)
              refine lv_aload hx hb dX5_told_54 (lv_at hl 0 rfl) ?_
              refine lv_iload_n hx hb dX5_told_56 rfl (lv_at hl 4 rfl) ?_
              refine lv_iload hx hb dX5_told_57 (lv_at hl 5 rfl) ?_
              refine lv_iload hx hb dX5_told_59 (lv_at hl 6 rfl) ?_
              obtain ⟨r18, k19, h35⟩ := ob1 h31
              clear h31
              refine g_vi F (cX2_troubleOf_ok l d cy (hs_r0 1) (hs_r1 1) (hs_items 1) (hs_lane 1) (hs_size 1) i3 i4 i5 r18 k19) cal_X2_troubleOf t_672 rfl ⟨by decide, by decide⟩ hw (w' := List.flatten [wX cy xx0 nw0 ps0 kp0 kq0 tr0 tp0 hs0 xx_isKept, wT cy nw0 nw1 nw2 ng0 nw_people nw_fewest nw_kinds nw_loves, wG cy ng0 ng1 ng2 ng3 ng_many ng_sets ng_chalk ng_wet ng_harvest ng_draw, wH cy hs0 hs_r0 hs_r1 hs_items hs_lane hs_size]) (SCut.cut (SCut.one (SCut.skip (SCut.skip (SCut.skip (SCut.take cutH1 SCut.none)))))) 0 2 rfl rfl hl.1 (Nat.le_of_ble_eq_true rfl) rfl dX5_told_61 (fun H locs hw => ?_)
              refine lv_istore (lv' := [(8, .int r18), (7, .ref (hs_r0 1)), (0, .ref xx0), (1, .int i1), (2, .int i2), (3, .int i3), (4, .int i4), (5, .int i5), (6, .int i6)]) hx hb dX5_told_64 hl (by decide) rfl (fun ls hl => ?_)
              refine lv_iload hx hb dX5_told_66 (lv_at hl 0 rfl) ?_
              refine lv_if_eq (tgt := 74) hx hb dX5_told_68 (by decide) (fun c20 => ?_) (fun c20 => ?_)
              · rw [if_pos c20] at h35
                refine lv_iload hx hb dX5_told_74 (lv_at hl 8 rfl) ?_
                refine lv_if_ne (tgt := 93) hx hb dX5_told_76 (by decide) (fun c21 => ?_) (fun c21 => ?_)
                · rw [if_neg c21] at h35
                  refine lv_aload_n hx hb dX5_told_93 rfl (lv_at hl 2 rfl) ?_
                  refine lv_iload_n hx hb dX5_told_94 rfl (lv_at hl 3 rfl) ?_
                  refine lv_aload hx hb dX5_told_95 (lv_at hl 1 rfl) ?_
                  refine lv_iload hx hb dX5_told_97 (lv_at hl 6 rfl) ?_
                  refine lv_iload hx hb dX5_told_99 (lv_at hl 7 rfl) ?_
                  obtain ⟨r22, k23, h36⟩ := ob1 h35
                  clear h35
                  refine g_vi F (cX5_lovesTold_ok l d cy xx0 nw0 nw1 nw2 ng0 ng1 ng2 ng3 (hs_r0 1) (hs_r1 1) ps0 kp0 kq0 tr0 tp0 hs0 xx_isKept nw_people nw_fewest nw_kinds nw_loves ng_many ng_sets ng_chalk ng_wet ng_harvest ng_draw (hs_items 1) (hs_lane 1) (hs_size 1) i1 i4 i5 r22 k23) cal_X5_lovesTold t_690 rfl ⟨by decide, by decide⟩ hw (w' := List.flatten [wX cy xx0 nw0 ps0 kp0 kq0 tr0 tp0 hs0 xx_isKept, wT cy nw0 nw1 nw2 ng0 nw_people nw_fewest nw_kinds nw_loves, wG cy ng0 ng1 ng2 ng3 ng_many ng_sets ng_chalk ng_wet ng_harvest ng_draw, wH cy hs0 hs_r0 hs_r1 hs_items hs_lane hs_size]) (SCut.cut (SCut.take SCut.rf (SCut.take SCut.rf (SCut.take SCut.rf (SCut.take cutH1 SCut.none))))) 0 5 rfl rfl hl.1 (Nat.le_of_ble_eq_true rfl) rfl dX5_told_101 (fun H locs hw => ?_)
                  obtain rfl := inj1 h36
                  exact hret _ _ _ _ hw dX5_told_104
                · rw [if_pos c21] at h35
                  refine lv_aload_n hx hb dX5_told_79 rfl (lv_at hl 2 rfl) ?_
                  refine lv_iload_n hx hb dX5_told_80 rfl (lv_at hl 3 rfl) ?_
                  refine lv_aload hx hb dX5_told_81 (lv_at hl 1 rfl) ?_
                  refine lv_iload hx hb dX5_told_83 (lv_at hl 6 rfl) ?_
                  refine lv_iload hx hb dX5_told_85 (lv_at hl 7 rfl) ?_
                  obtain ⟨r24, k25, h37⟩ := ob1 h35
                  clear h35
                  refine g_vi F (cX5_kindsTold_ok l d cy xx0 nw0 nw1 nw2 ng0 ng1 ng2 ng3 (hs_r0 1) (hs_r1 1) ps0 kp0 kq0 tr0 tp0 hs0 xx_isKept nw_people nw_fewest nw_kinds nw_loves ng_many ng_sets ng_chalk ng_wet ng_harvest ng_draw (hs_items 1) (hs_lane 1) (hs_size 1) i1 i4 i5 r24 k25) cal_X5_kindsTold t_680 rfl ⟨by decide, by decide⟩ hw (w' := List.flatten [wX cy xx0 nw0 ps0 kp0 kq0 tr0 tp0 hs0 xx_isKept, wT cy nw0 nw1 nw2 ng0 nw_people nw_fewest nw_kinds nw_loves, wG cy ng0 ng1 ng2 ng3 ng_many ng_sets ng_chalk ng_wet ng_harvest ng_draw, wH cy hs0 hs_r0 hs_r1 hs_items hs_lane hs_size]) (SCut.cut (SCut.take SCut.rf (SCut.take SCut.rf (SCut.take SCut.rf (SCut.take cutH1 SCut.none))))) 0 5 rfl rfl hl.1 (Nat.le_of_ble_eq_true rfl) rfl dX5_told_87 (fun H locs hw => ?_)
                  refine lv_goto (tgt := 104) hx hb dX5_told_90 (by decide) ?_
                  obtain rfl := inj1 h37
                  exact hret _ _ _ _ hw dX5_told_104
              · rw [if_neg c20] at h35
                refine lv_iload hx hb dX5_told_71 (lv_at hl 0 rfl) ?_
                obtain rfl := inj1 h35
                exact hret _ _ _ _ hw dX5_told_73
            · refine g_aald F 4 rfl hw 8 rfl k17 dX5_told_51 ?_
              refine lv_astore (lv' := [(7, .ref (hs_r0 2)), (0, .ref xx0), (1, .int i1), (2, .int i2), (3, .int i3), (4, .int i4), (5, .int i5), (6, .int i6)]) hx hb dX5_told_52 hl (by decide) rfl (fun ls hl => ?_)
              refine lv_aload hx hb dX5_told_54 (lv_at hl 0 rfl) ?_
              refine lv_iload_n hx hb dX5_told_56 rfl (lv_at hl 4 rfl) ?_
              refine lv_iload hx hb dX5_told_57 (lv_at hl 5 rfl) ?_
              refine lv_iload hx hb dX5_told_59 (lv_at hl 6 rfl) ?_
              obtain ⟨r18, k19, h38⟩ := ob1 h31
              clear h31
              refine g_vi F (cX2_troubleOf_ok l d cy (hs_r0 2) (hs_r1 2) (hs_items 2) (hs_lane 2) (hs_size 2) i3 i4 i5 r18 k19) cal_X2_troubleOf t_672 rfl ⟨by decide, by decide⟩ hw (w' := List.flatten [wX cy xx0 nw0 ps0 kp0 kq0 tr0 tp0 hs0 xx_isKept, wT cy nw0 nw1 nw2 ng0 nw_people nw_fewest nw_kinds nw_loves, wG cy ng0 ng1 ng2 ng3 ng_many ng_sets ng_chalk ng_wet ng_harvest ng_draw, wH cy hs0 hs_r0 hs_r1 hs_items hs_lane hs_size]) (SCut.cut (SCut.one (SCut.skip (SCut.skip (SCut.skip (SCut.take cutH2 SCut.none)))))) 0 2 rfl rfl hl.1 (Nat.le_of_ble_eq_true rfl) rfl dX5_told_61 (fun H locs hw => ?_)
              refine lv_istore (lv' := [(8, .int r18), (7, .ref (hs_r0 2)), (0, .ref xx0), (1, .int i1), (2, .int i2), (3, .int i3), (4, .int i4), (5, .int i5), (6, .int i6)]) hx hb dX5_told_64 hl (by decide) rfl (fun ls hl => ?_)
              refine lv_iload hx hb dX5_told_66 (lv_at hl 0 rfl) ?_
              refine lv_if_eq (tgt := 74) hx hb dX5_told_68 (by decide) (fun c20 => ?_) (fun c20 => ?_)
              · rw [if_pos c20] at h38
                refine lv_iload hx hb dX5_told_74 (lv_at hl 8 rfl) ?_
                refine lv_if_ne (tgt := 93) hx hb dX5_told_76 (by decide) (fun c21 => ?_) (fun c21 => ?_)
                · rw [if_neg c21] at h38
                  refine lv_aload_n hx hb dX5_told_93 rfl (lv_at hl 2 rfl) ?_
                  refine lv_iload_n hx hb dX5_told_94 rfl (lv_at hl 3 rfl) ?_
                  refine lv_aload hx hb dX5_told_95 (lv_at hl 1 rfl) ?_
                  refine lv_iload hx hb dX5_told_97 (lv_at hl 6 rfl) ?_
                  refine lv_iload hx hb dX5_told_99 (lv_at hl 7 rfl) ?_
                  obtain ⟨r22, k23, h39⟩ := ob1 h38
                  clear h38
                  refine g_vi F (cX5_lovesTold_ok l d cy xx0 nw0 nw1 nw2 ng0 ng1 ng2 ng3 (hs_r0 2) (hs_r1 2) ps0 kp0 kq0 tr0 tp0 hs0 xx_isKept nw_people nw_fewest nw_kinds nw_loves ng_many ng_sets ng_chalk ng_wet ng_harvest ng_draw (hs_items 2) (hs_lane 2) (hs_size 2) i1 i4 i5 r22 k23) cal_X5_lovesTold t_690 rfl ⟨by decide, by decide⟩ hw (w' := List.flatten [wX cy xx0 nw0 ps0 kp0 kq0 tr0 tp0 hs0 xx_isKept, wT cy nw0 nw1 nw2 ng0 nw_people nw_fewest nw_kinds nw_loves, wG cy ng0 ng1 ng2 ng3 ng_many ng_sets ng_chalk ng_wet ng_harvest ng_draw, wH cy hs0 hs_r0 hs_r1 hs_items hs_lane hs_size]) (SCut.cut (SCut.take SCut.rf (SCut.take SCut.rf (SCut.take SCut.rf (SCut.take cutH2 SCut.none))))) 0 5 rfl rfl hl.1 (Nat.le_of_ble_eq_true rfl) rfl dX5_told_101 (fun H locs hw => ?_)
                  obtain rfl := inj1 h39
                  exact hret _ _ _ _ hw dX5_told_104
                · rw [if_pos c21] at h38
                  refine lv_aload_n hx hb dX5_told_79 rfl (lv_at hl 2 rfl) ?_
                  refine lv_iload_n hx hb dX5_told_80 rfl (lv_at hl 3 rfl) ?_
                  refine lv_aload hx hb dX5_told_81 (lv_at hl 1 rfl) ?_
                  refine lv_iload hx hb dX5_told_83 (lv_at hl 6 rfl) ?_
                  refine lv_iload hx hb dX5_told_85 (lv_at hl 7 rfl) ?_
                  obtain ⟨r24, k25, h40⟩ := ob1 h38
                  clear h38
                  refine g_vi F (cX5_kindsTold_ok l d cy xx0 nw0 nw1 nw2 ng0 ng1 ng2 ng3 (hs_r0 2) (hs_r1 2) ps0 kp0 kq0 tr0 tp0 hs0 xx_isKept nw_people nw_fewest nw_kinds nw_loves ng_many ng_sets ng_chalk ng_wet ng_harvest ng_draw (hs_items 2) (hs_lane 2) (hs_size 2) i1 i4 i5 r24 k25) cal_X5_kindsTold t_680 rfl ⟨by decide, by decide⟩ hw (w' := List.flatten [wX cy xx0 nw0 ps0 kp0 kq0 tr0 tp0 hs0 xx_isKept, wT cy nw0 nw1 nw2 ng0 nw_people nw_fewest nw_kinds nw_loves, wG cy ng0 ng1 ng2 ng3 ng_many ng_sets ng_chalk ng_wet ng_harvest ng_draw, wH cy hs0 hs_r0 hs_r1 hs_items hs_lane hs_size]) (SCut.cut (SCut.take SCut.rf (SCut.take SCut.rf (SCut.take SCut.rf (SCut.take cutH2 SCut.none))))) 0 5 rfl rfl hl.1 (Nat.le_of_ble_eq_true rfl) rfl dX5_told_87 (fun H locs hw => ?_)
                  refine lv_goto (tgt := 104) hx hb dX5_told_90 (by decide) ?_
                  obtain rfl := inj1 h40
                  exact hret _ _ _ _ hw dX5_told_104
              · rw [if_neg c20] at h38
                refine lv_iload hx hb dX5_told_71 (lv_at hl 0 rfl) ?_
                obtain rfl := inj1 h38
                exact hret _ _ _ _ hw dX5_told_73
            · refine g_aald F 4 rfl hw 8 rfl k17 dX5_told_51 ?_
              refine lv_astore (lv' := [(7, .ref (hs_r0 3)), (0, .ref xx0), (1, .int i1), (2, .int i2), (3, .int i3), (4, .int i4), (5, .int i5), (6, .int i6)]) hx hb dX5_told_52 hl (by decide) rfl (fun ls hl => ?_)
              refine lv_aload hx hb dX5_told_54 (lv_at hl 0 rfl) ?_
              refine lv_iload_n hx hb dX5_told_56 rfl (lv_at hl 4 rfl) ?_
              refine lv_iload hx hb dX5_told_57 (lv_at hl 5 rfl) ?_
              refine lv_iload hx hb dX5_told_59 (lv_at hl 6 rfl) ?_
              obtain ⟨r18, k19, h41⟩ := ob1 h31
              clear h31
              refine g_vi F (cX2_troubleOf_ok l d cy (hs_r0 3) (hs_r1 3) (hs_items 3) (hs_lane 3) (hs_size 3) i3 i4 i5 r18 k19) cal_X2_troubleOf t_672 rfl ⟨by decide, by decide⟩ hw (w' := List.flatten [wX cy xx0 nw0 ps0 kp0 kq0 tr0 tp0 hs0 xx_isKept, wT cy nw0 nw1 nw2 ng0 nw_people nw_fewest nw_kinds nw_loves, wG cy ng0 ng1 ng2 ng3 ng_many ng_sets ng_chalk ng_wet ng_harvest ng_draw, wH cy hs0 hs_r0 hs_r1 hs_items hs_lane hs_size]) (SCut.cut (SCut.one (SCut.skip (SCut.skip (SCut.skip (SCut.take cutH3 SCut.none)))))) 0 2 rfl rfl hl.1 (Nat.le_of_ble_eq_true rfl) rfl dX5_told_61 (fun H locs hw => ?_)
              refine lv_istore (lv' := [(8, .int r18), (7, .ref (hs_r0 3)), (0, .ref xx0), (1, .int i1), (2, .int i2), (3, .int i3), (4, .int i4), (5, .int i5), (6, .int i6)]) hx hb dX5_told_64 hl (by decide) rfl (fun ls hl => ?_)
              refine lv_iload hx hb dX5_told_66 (lv_at hl 0 rfl) ?_
              refine lv_if_eq (tgt := 74) hx hb dX5_told_68 (by decide) (fun c20 => ?_) (fun c20 => ?_)
              · rw [if_pos c20] at h41
                refine lv_iload hx hb dX5_told_74 (lv_at hl 8 rfl) ?_
                refine lv_if_ne (tgt := 93) hx hb dX5_told_76 (by decide) (fun c21 => ?_) (fun c21 => ?_)
                · rw [if_neg c21] at h41
                  refine lv_aload_n hx hb dX5_told_93 rfl (lv_at hl 2 rfl) ?_
                  refine lv_iload_n hx hb dX5_told_94 rfl (lv_at hl 3 rfl) ?_
                  refine lv_aload hx hb dX5_told_95 (lv_at hl 1 rfl) ?_
                  refine lv_iload hx hb dX5_told_97 (lv_at hl 6 rfl) ?_
                  refine lv_iload hx hb dX5_told_99 (lv_at hl 7 rfl) ?_
                  obtain ⟨r22, k23, h42⟩ := ob1 h41
                  clear h41
                  refine g_vi F (cX5_lovesTold_ok l d cy xx0 nw0 nw1 nw2 ng0 ng1 ng2 ng3 (hs_r0 3) (hs_r1 3) ps0 kp0 kq0 tr0 tp0 hs0 xx_isKept nw_people nw_fewest nw_kinds nw_loves ng_many ng_sets ng_chalk ng_wet ng_harvest ng_draw (hs_items 3) (hs_lane 3) (hs_size 3) i1 i4 i5 r22 k23) cal_X5_lovesTold t_690 rfl ⟨by decide, by decide⟩ hw (w' := List.flatten [wX cy xx0 nw0 ps0 kp0 kq0 tr0 tp0 hs0 xx_isKept, wT cy nw0 nw1 nw2 ng0 nw_people nw_fewest nw_kinds nw_loves, wG cy ng0 ng1 ng2 ng3 ng_many ng_sets ng_chalk ng_wet ng_harvest ng_draw, wH cy hs0 hs_r0 hs_r1 hs_items hs_lane hs_size]) (SCut.cut (SCut.take SCut.rf (SCut.take SCut.rf (SCut.take SCut.rf (SCut.take cutH3 SCut.none))))) 0 5 rfl rfl hl.1 (Nat.le_of_ble_eq_true rfl) rfl dX5_told_101 (fun H locs hw => ?_)
                  obtain rfl := inj1 h42
                  exact hret _ _ _ _ hw dX5_told_104
                · rw [if_pos c21] at h41
                  refine lv_aload_n hx hb dX5_told_79 rfl (lv_at hl 2 rfl) ?_
                  refine lv_iload_n hx hb dX5_told_80 rfl (lv_at hl 3 rfl) ?_
                  refine lv_aload hx hb dX5_told_81 (lv_at hl 1 rfl) ?_
                  refine lv_iload hx hb dX5_told_83 (lv_at hl 6 rfl) ?_
                  refine lv_iload hx hb dX5_told_85 (lv_at hl 7 rfl) ?_
                  obtain ⟨r24, k25, h43⟩ := ob1 h41
                  clear h41
                  refine g_vi F (cX5_kindsTold_ok l d cy xx0 nw0 nw1 nw2 ng0 ng1 ng2 ng3 (hs_r0 3) (hs_r1 3) ps0 kp0 kq0 tr0 tp0 hs0 xx_isKept nw_people nw_fewest nw_kinds nw_loves ng_many ng_sets ng_chalk ng_wet ng_harvest ng_draw (hs_items 3) (hs_lane 3) (hs_size 3) i1 i4 i5 r24 k25) cal_X5_kindsTold t_680 rfl ⟨by decide, by decide⟩ hw (w' := List.flatten [wX cy xx0 nw0 ps0 kp0 kq0 tr0 tp0 hs0 xx_isKept, wT cy nw0 nw1 nw2 ng0 nw_people nw_fewest nw_kinds nw_loves, wG cy ng0 ng1 ng2 ng3 ng_many ng_sets ng_chalk ng_wet ng_harvest ng_draw, wH cy hs0 hs_r0 hs_r1 hs_items hs_lane hs_size]) (SCut.cut (SCut.take SCut.rf (SCut.take SCut.rf (SCut.take SCut.rf (SCut.take cutH3 SCut.none))))) 0 5 rfl rfl hl.1 (Nat.le_of_ble_eq_true rfl) rfl dX5_told_87 (fun H locs hw => ?_)
                  refine lv_goto (tgt := 104) hx hb dX5_told_90 (by decide) ?_
                  obtain rfl := inj1 h43
                  exact hret _ _ _ _ hw dX5_told_104
              · rw [if_neg c20] at h41
                refine lv_iload hx hb dX5_told_71 (lv_at hl 0 rfl) ?_
                obtain rfl := inj1 h41
                exact hret _ _ _ _ hw dX5_told_73
          · rw [if_pos c15] at h30
            refine lv_iconst (v := (-1)) hx hb dX5_told_44 (by decide) ?_
            obtain rfl := inj1 h30
            exact hret _ _ _ _ hw dX5_told_45
theorem cal_X5_film : CalV yX5_film cX5_film 8 (some .int) RX5 5 := ⟨t_697, t_695, t_696, t_37, by decide +kernel⟩
set_option maxHeartbeats 4000000 in
set_option maxRecDepth 100000 in
theorem cX5_film_ok (l : Launch) (d : va_G) (cy : Nat → ClassId) (xx0 nw0 nw1 nw2 ng0 ng1 ng2 ng3 hs0 ps0 kp0 kq0 tr0 tp0 : Nat) (xx_isKept : Int32) (nw_people : Int32) (nw_fewest : Int32) (nw_kinds : Nat → Int32) (nw_loves : Nat → Int32) (ng_many : Nat → Int32) (ng_sets : Nat → Int32) (ng_chalk : Nat → Int32) (ng_wet : Int32) (ng_harvest : Int32) (ng_draw : Int32) (hs_r0 : Nat → Nat) (hs_r1 : Nat → Nat) (hs_items : Nat → Nat → Int64) (hs_lane : Nat → Int32) (hs_size : Nat → Int32) (i1 : Int32) (i2 : Int32) (i3 : Int32) (i4 : Int32) (i5 : Int32) (r : Int32) (hs_items_r : Nat → Nat → Int64) (h0 : fX5_film nw_people nw_kinds nw_loves ng_sets ng_wet ng_harvest hs_items hs_lane hs_size i1 i2 i3 i4 i5 = some (r, hs_items_r)) : CI l yX5_film cX5_film 8 (some .int) 3 72 d cy [.ref xx0, .int i1, .int i2, .int i3, .int i4, .int i5] (List.flatten [wX cy xx0 nw0 ps0 kp0 kq0 tr0 tp0 hs0 xx_isKept, wT cy nw0 nw1 nw2 ng0 nw_people nw_fewest nw_kinds nw_loves, wG cy ng0 ng1 ng2 ng3 ng_many ng_sets ng_chalk ng_wet ng_harvest ng_draw, wH cy hs0 hs_r0 hs_r1 hs_items hs_lane hs_size]) (List.flatten [wX cy xx0 nw0 ps0 kp0 kq0 tr0 tp0 hs0 xx_isKept, wT cy nw0 nw1 nw2 ng0 nw_people nw_fewest nw_kinds nw_loves, wG cy ng0 ng1 ng2 ng3 ng_many ng_sets ng_chalk ng_wet ng_harvest ng_draw, wH cy hs0 hs_r0 hs_r1 hs_items_r hs_lane hs_size]) r := by
  refine CI.of (by decide) (Nat.le_of_ble_eq_true rfl) ?_
  intro p e s m args below meth c A ls Q F hret hw hl
  have hx := F.1
  have hb := F.2.1
  have hl : lv_has ls 8 [(0, .ref xx0), (1, .int i1), (2, .int i2), (3, .int i3), (4, .int i4), (5, .int i5)] := hl
  rw [fX5_film] at h0
  refine lv_aload_n hx hb dX5_film_0 rfl (lv_at hl 0 rfl) ?_
  refine g_get F inG5 hw 0 rfl rfl 0 (by decide) t_185 (fun _ h9 => h9) rfl dX5_film_1 ?_
  refine lv_iload_n hx hb dX5_film_4 rfl (lv_at hl 1 rfl) ?_
  obtain ⟨r1, k2, h47⟩ := ob1 h0
  clear h0
  refine g_vi F (cX4_isOne_ok l d cy nw0 nw1 nw2 ng0 ng1 ng2 ng3 nw_people nw_fewest nw_kinds nw_loves ng_many ng_sets ng_chalk ng_wet ng_harvest ng_draw i1 r1 k2) cal_X4_isOne t_233 rfl ⟨by decide, by decide⟩ hw (w' := List.flatten [wX cy xx0 nw0 ps0 kp0 kq0 tr0 tp0 hs0 xx_isKept, wT cy nw0 nw1 nw2 ng0 nw_people nw_fewest nw_kinds nw_loves, wG cy ng0 ng1 ng2 ng3 ng_many ng_sets ng_chalk ng_wet ng_harvest ng_draw, wH cy hs0 hs_r0 hs_r1 hs_items hs_lane hs_size]) (SCut.cut (SCut.skip (SCut.take SCut.rf (SCut.take SCut.rf (SCut.skip SCut.none))))) 0 4 rfl rfl hl.1 (Nat.le_of_ble_eq_true rfl) rfl dX5_film_5 (fun H locs hw => ?_)
  refine lv_if_eq (tgt := 36) hx hb dX5_film_8 (by decide) (fun c3 => ?_) (fun c3 => ?_)
  · rw [if_pos c3] at h47
    refine lv_iconst (v := (-1)) hx hb dX5_film_36 (by decide) ?_
    obtain ⟨rfl, rfl⟩ := inj2 h47
    exact hret _ _ _ _ hw dX5_film_37
  · rw [if_neg c3] at h47
    refine lv_iload_n hx hb dX5_film_11 rfl (lv_at hl 2 rfl) ?_
    refine lv_iconst (v := 1) hx hb dX5_film_12 (by decide) ?_
    refine lv_bipush (v := 12) hx hb dX5_film_13 (by decide) ?_
    obtain ⟨r4, k5, h48⟩ := ob1 h47
    clear h47
    refine g_si F (cX5_isWithin_ok l d cy i2 1 12 r4 k5) cal_X5_isWithin t_214 rfl ⟨by decide, by decide⟩ hw (w' := List.flatten [wX cy xx0 nw0 ps0 kp0 kq0 tr0 tp0 hs0 xx_isKept, wT cy nw0 nw1 nw2 ng0 nw_people nw_fewest nw_kinds nw_loves, wG cy ng0 ng1 ng2 ng3 ng_many ng_sets ng_chalk ng_wet ng_harvest ng_draw, wH cy hs0 hs_r0 hs_r1 hs_items hs_lane hs_size]) Cut.nil hl.1 (Nat.le_of_ble_eq_true rfl) rfl dX5_film_15 (fun H locs hw => ?_)
    refine lv_if_eq (tgt := 36) hx hb dX5_film_18 (by decide) (fun c6 => ?_) (fun c6 => ?_)
    · rw [if_pos c6] at h48
      refine lv_iconst (v := (-1)) hx hb dX5_film_36 (by decide) ?_
      obtain ⟨rfl, rfl⟩ := inj2 h48
      exact hret _ _ _ _ hw dX5_film_37
    · rw [if_neg c6] at h48
      refine lv_iload_n hx hb dX5_film_21 rfl (lv_at hl 3 rfl) ?_
      obtain ⟨r7, k8, h49⟩ := ob1 h48
      clear h48
      refine g_si F (cX5_isSheet_ok l d cy i3 r7 k8) cal_X5_isSheet t_666 rfl ⟨by decide, by decide⟩ hw (w' := List.flatten [wX cy xx0 nw0 ps0 kp0 kq0 tr0 tp0 hs0 xx_isKept, wT cy nw0 nw1 nw2 ng0 nw_people nw_fewest nw_kinds nw_loves, wG cy ng0 ng1 ng2 ng3 ng_many ng_sets ng_chalk ng_wet ng_harvest ng_draw, wH cy hs0 hs_r0 hs_r1 hs_items hs_lane hs_size]) Cut.nil hl.1 (Nat.le_of_ble_eq_true rfl) rfl dX5_film_22 (fun H locs hw => ?_)
      refine lv_if_eq (tgt := 36) hx hb dX5_film_25 (by decide) (fun c9 => ?_) (fun c9 => ?_)
      · rw [if_pos c9] at h49
        refine lv_iconst (v := (-1)) hx hb dX5_film_36 (by decide) ?_
        obtain ⟨rfl, rfl⟩ := inj2 h49
        exact hret _ _ _ _ hw dX5_film_37
      · rw [if_neg c9] at h49
        refine lv_iload hx hb dX5_film_28 (lv_at hl 4 rfl) ?_
        obtain ⟨r10, k11, h50⟩ := ob1 h49
        clear h49
        refine g_si F (cX5_isLane_ok l d cy i4 r10 k11) cal_X5_isLane t_669 rfl ⟨by decide, by decide⟩ hw (w' := List.flatten [wX cy xx0 nw0 ps0 kp0 kq0 tr0 tp0 hs0 xx_isKept, wT cy nw0 nw1 nw2 ng0 nw_people nw_fewest nw_kinds nw_loves, wG cy ng0 ng1 ng2 ng3 ng_many ng_sets ng_chalk ng_wet ng_harvest ng_draw, wH cy hs0 hs_r0 hs_r1 hs_items hs_lane hs_size]) Cut.nil hl.1 (Nat.le_of_ble_eq_true rfl) rfl dX5_film_30 (fun H locs hw => ?_)
        refine lv_if_ne (tgt := 38) hx hb dX5_film_33 (by decide) (fun c12 => ?_) (fun c12 => ?_)
        · rw [if_neg c12] at h50
          refine lv_aload_n hx hb dX5_film_38 rfl (lv_at hl 0 rfl) ?_
          refine g_get F inG5 hw 0 rfl rfl 7 (by decide) t_192 (fun _ h9 => h9) rfl dX5_film_39 ?_
          refine lv_iload_n hx hb dX5_film_42 rfl (lv_at hl 3 rfl) ?_
          obtain ⟨j13, k14, h51⟩ := ob1 h50
          clear h50
          rcases ix4 k14 with rfl | rfl | rfl | rfl
          · refine g_aald F 4 rfl hw 8 rfl k14 dX5_film_43 ?_
            refine lv_iload hx hb dX5_film_44 (lv_at hl 4 rfl) ?_
            refine lv_iload hx hb dX5_film_46 (lv_at hl 5 rfl) ?_
            refine lv_iload_n hx hb dX5_film_48 rfl (lv_at hl 2 rfl) ?_
            obtain ⟨r15, k16, h52⟩ := ob1 h51
            clear h51
            refine g_vi F (cX2_troubleOf_ok l d cy (hs_r0 0) (hs_r1 0) (hs_items 0) (hs_lane 0) (hs_size 0) i4 i5 i2 r15 k16) cal_X2_troubleOf t_672 rfl ⟨by decide, by decide⟩ hw (w' := List.flatten [wX cy xx0 nw0 ps0 kp0 kq0 tr0 tp0 hs0 xx_isKept, wT cy nw0 nw1 nw2 ng0 nw_people nw_fewest nw_kinds nw_loves, wG cy ng0 ng1 ng2 ng3 ng_many ng_sets ng_chalk ng_wet ng_harvest ng_draw, wH cy hs0 hs_r0 hs_r1 hs_items hs_lane hs_size]) (SCut.cut (SCut.one (SCut.skip (SCut.skip (SCut.skip (SCut.take cutH0 SCut.none)))))) 0 2 rfl rfl hl.1 (Nat.le_of_ble_eq_true rfl) rfl dX5_film_49 (fun H locs hw => ?_)
            refine lv_istore (lv' := [(6, .int r15), (0, .ref xx0), (1, .int i1), (2, .int i2), (3, .int i3), (4, .int i4), (5, .int i5)]) hx hb dX5_film_52 hl (by decide) rfl (fun ls hl => ?_)
            refine lv_iload hx hb dX5_film_54 (lv_at hl 0 rfl) ?_
            refine lv_if_eq (tgt := 62) hx hb dX5_film_56 (by decide) (fun c17 => ?_) (fun c17 => ?_)
            · rw [if_pos c17] at h52
              refine lv_iconst (v := 0) hx hb dX5_film_62 (by decide) ?_
              refine lv_istore (lv' := [(7, .int 0), (6, .int r15), (0, .ref xx0), (1, .int i1), (2, .int i2), (3, .int i3), (4, .int i4), (5, .int i5)]) hx hb dX5_film_63 hl (by decide) rfl (fun ls hl => ?_)
              obtain ⟨q39, h53, h54⟩ := ob1 h52
              clear h52
              have kont36 : ∀ (H : Heap) (locs : List Loc) (ls : Array Slot), Wd d A s.heap (List.flatten [wX cy xx0 nw0 ps0 kp0 kq0 tr0 tp0 hs0 xx_isKept, wT cy nw0 nw1 nw2 ng0 nw_people nw_fewest nw_kinds nw_loves, wG cy ng0 ng1 ng2 ng3 ng_many ng_sets ng_chalk ng_wet ng_harvest ng_draw, wH cy hs0 hs_r0 hs_r1 q39 hs_lane hs_size]) H locs → lv_has ls 8 [(2, .int i2)] → W p l e (rmo 3 72) s m args below meth c H locs 0 0 Q (F0 m 102 ls []) := by
                intro H locs ls hw hl
                clear h53
                refine lv_iload_n hx hb dX5_film_102 rfl (lv_at hl 0 rfl) ?_
                obtain ⟨rfl, rfl⟩ := inj2 h54
                exact hret _ _ _ _ hw dX5_film_103
              clear h54
              have loop38 : ∀ (n : Nat) (v34 : Int32) (g35 : Nat → Nat → Int64) (H : Heap) (locs : List Loc) (ls : Array Slot), Wd d A s.heap (List.flatten [wX cy xx0 nw0 ps0 kp0 kq0 tr0 tp0 hs0 xx_isKept, wT cy nw0 nw1 nw2 ng0 nw_people nw_fewest nw_kinds nw_loves, wG cy ng0 ng1 ng2 ng3 ng_many ng_sets ng_chalk ng_wet ng_harvest ng_draw, wH cy hs0 hs_r0 hs_r1 g35 hs_lane hs_size]) H locs → lv_has ls 8 [(0, .ref xx0), (1, .int i1), (2, .int i2), (3, .int i3), (5, .int i5), (7, .int v34)] → fX5_film_L65 hs_lane i1 i2 i3 i5 ng_harvest ng_sets ng_wet nw_kinds nw_loves n v34 g35 = some (q39) → W p l e (rmo 3 72) s m args below meth c H locs 0 0 Q (F0 m 65 ls []) := by
                intro n
                induction n with
                | zero =>
                  intro v34 g35 H locs ls hw hl h55
                  rw [fX5_film_L65] at h55
                  cases h55
                | succ n ih37 =>
                  intro v34 g35 H locs ls hw hl h56
                  rw [fX5_film_L65] at h56
                  refine lv_iload hx hb dX5_film_65 (lv_at hl 5 rfl) ?_
                  refine lv_iload_n hx hb dX5_film_67 rfl (lv_at hl 2 rfl) ?_
                  refine lv_icmp_ge (tgt := 102) hx hb dX5_film_68 (by decide) (fun c40 => ?_) (fun c40 => ?_)
                  · rw [if_pos c40] at h56
                    obtain rfl := inj1 h56
                    exact kont36 _ _ _ hw (lv_sub hl [2] rfl)
                  · rw [if_neg c40] at h56
                    refine lv_aload_n hx hb dX5_film_71 rfl (lv_at hl 0 rfl) ?_
                    refine g_get F inG5 hw 0 rfl rfl 7 (by decide) t_192 (fun _ h9 => h9) rfl dX5_film_72 ?_
                    refine lv_iload_n hx hb dX5_film_75 rfl (lv_at hl 3 rfl) ?_
                    obtain ⟨j41, k42, h57⟩ := ob1 h56
                    clear h56
                    rcases ix4 k42 with rfl | rfl | rfl | rfl
                    · refine g_aald F 4 rfl hw 8 rfl k42 dX5_film_76 ?_
                      refine lv_iload hx hb dX5_film_77 (lv_at hl 4 rfl) ?_
                      refine lv_iload hx hb dX5_film_79 (lv_at hl 5 rfl) ?_
                      refine lv_iadd hx hb dX5_film_81 ?_
                      refine lv_aload_n hx hb dX5_film_82 rfl (lv_at hl 0 rfl) ?_
                      refine g_get F inG5 hw 0 rfl rfl 0 (by decide) t_185 (fun _ h9 => h9) rfl dX5_film_83 ?_
                      refine lv_iload_n hx hb dX5_film_86 rfl (lv_at hl 1 rfl) ?_
                      refine lv_iload hx hb dX5_film_87 (lv_at hl 5 rfl) ?_
                      obtain ⟨r43, k44, h58⟩ := ob1 h57
                      clear h57
                      refine g_vi F (cX4_worthOfHalf_ok l d cy nw0 nw1 nw2 ng0 ng1 ng2 ng3 nw_people nw_fewest nw_kinds nw_loves ng_many ng_sets ng_chalk ng_wet ng_harvest ng_draw i1 v34 r43 k44) cal_X4_worthOfHalf t_282 rfl ⟨by decide, by decide⟩ hw (w' := List.flatten [wX cy xx0 nw0 ps0 kp0 kq0 tr0 tp0 hs0 xx_isKept, wT cy nw0 nw1 nw2 ng0 nw_people nw_fewest nw_kinds nw_loves, wG cy ng0 ng1 ng2 ng3 ng_many ng_sets ng_chalk ng_wet ng_harvest ng_draw, wH cy hs0 hs_r0 hs_r1 g35 hs_lane hs_size]) (SCut.cut (SCut.skip (SCut.take SCut.rf (SCut.take SCut.rf (SCut.skip SCut.none))))) 0 4 rfl rfl hl.1 (Nat.le_of_ble_eq_true rfl) rfl dX5_film_89 (fun H locs hw => ?_)
                      refine lv_i2l hx hb dX5_film_92 rfl ?_
                      obtain ⟨f45, k46, h59⟩ := ob1 h58
                      clear h58
                      refine g_vv F (cX2_put_ok l d cy (hs_r0 0) (hs_r1 0) (g35 0) (hs_lane 0) (hs_size 0) (i5 + v34) (Int32.toInt64 r43) f45 k46) cal_X2_put t_698 rfl ⟨by decide, by decide⟩ hw (w' := List.flatten [wX cy xx0 nw0 ps0 kp0 kq0 tr0 tp0 hs0 xx_isKept, wT cy nw0 nw1 nw2 ng0 nw_people nw_fewest nw_kinds nw_loves, wG cy ng0 ng1 ng2 ng3 ng_many ng_sets ng_chalk ng_wet ng_harvest ng_draw, wH cy hs0 hs_r0 hs_r1 (va_up g35 0 f45) hs_lane hs_size]) (SCut.cut (SCut.one (SCut.skip (SCut.skip (SCut.skip (SCut.take cutH0 SCut.none)))))) 0 2 rfl rfl hl.1 (Nat.le_of_ble_eq_true rfl) rfl dX5_film_93 (fun H locs hw => ?_)
                      refine lv_iinc (v := (v34 + 1)) (lv' := [(7, .int (v34 + 1)), (0, .ref xx0), (1, .int i1), (2, .int i2), (3, .int i3), (5, .int i5)]) hx hb dX5_film_96 hl (k := 5) rfl rfl (by decide) rfl (fun ls hl => ?_)
                      refine lv_goto (tgt := 65) hx hb dX5_film_99 (by decide) ?_
                      exact ih37 (v34 + 1) (va_up g35 0 f45) _ _ _ hw (lv_sub hl [1, 2, 3, 4, 5, 0] rfl) h59
                    · refine g_aald F 4 rfl hw 8 rfl k42 dX5_film_76 ?_
                      refine lv_iload hx hb dX5_film_77 (lv_at hl 4 rfl) ?_
                      refine lv_iload hx hb dX5_film_79 (lv_at hl 5 rfl) ?_
                      refine lv_iadd hx hb dX5_film_81 ?_
                      refine lv_aload_n hx hb dX5_film_82 rfl (lv_at hl 0 rfl) ?_
                      refine g_get F inG5 hw 0 rfl rfl 0 (by decide) t_185 (fun _ h9 => h9) rfl dX5_film_83 ?_
                      refine lv_iload_n hx hb dX5_film_86 rfl (lv_at hl 1 rfl) ?_
                      refine lv_iload hx hb dX5_film_87 (lv_at hl 5 rfl) ?_
                      obtain ⟨r43, k44, h60⟩ := ob1 h57
                      clear h57
                      refine g_vi F (cX4_worthOfHalf_ok l d cy nw0 nw1 nw2 ng0 ng1 ng2 ng3 nw_people nw_fewest nw_kinds nw_loves ng_many ng_sets ng_chalk ng_wet ng_harvest ng_draw i1 v34 r43 k44) cal_X4_worthOfHalf t_282 rfl ⟨by decide, by decide⟩ hw (w' := List.flatten [wX cy xx0 nw0 ps0 kp0 kq0 tr0 tp0 hs0 xx_isKept, wT cy nw0 nw1 nw2 ng0 nw_people nw_fewest nw_kinds nw_loves, wG cy ng0 ng1 ng2 ng3 ng_many ng_sets ng_chalk ng_wet ng_harvest ng_draw, wH cy hs0 hs_r0 hs_r1 g35 hs_lane hs_size]) (SCut.cut (SCut.skip (SCut.take SCut.rf (SCut.take SCut.rf (SCut.skip SCut.none))))) 0 4 rfl rfl hl.1 (Nat.le_of_ble_eq_true rfl) rfl dX5_film_89 (fun H locs hw => ?_)
                      refine lv_i2l hx hb dX5_film_92 rfl ?_
                      obtain ⟨f45, k46, h61⟩ := ob1 h60
                      clear h60
                      refine g_vv F (cX2_put_ok l d cy (hs_r0 1) (hs_r1 1) (g35 1) (hs_lane 1) (hs_size 1) (i5 + v34) (Int32.toInt64 r43) f45 k46) cal_X2_put t_698 rfl ⟨by decide, by decide⟩ hw (w' := List.flatten [wX cy xx0 nw0 ps0 kp0 kq0 tr0 tp0 hs0 xx_isKept, wT cy nw0 nw1 nw2 ng0 nw_people nw_fewest nw_kinds nw_loves, wG cy ng0 ng1 ng2 ng3 ng_many ng_sets ng_chalk ng_wet ng_harvest ng_draw, wH cy hs0 hs_r0 hs_r1 (va_up g35 1 f45) hs_lane hs_size]) (SCut.cut (SCut.one (SCut.skip (SCut.skip (SCut.skip (SCut.take cutH1 SCut.none)))))) 0 2 rfl rfl hl.1 (Nat.le_of_ble_eq_true rfl) rfl dX5_film_93 (fun H locs hw => ?_)
                      refine lv_iinc (v := (v34 + 1)) (lv' := [(7, .int (v34 + 1)), (0, .ref xx0), (1, .int i1), (2, .int i2), (3, .int i3), (5, .int i5)]) hx hb dX5_film_96 hl (k := 5) rfl rfl (by decide) rfl (fun ls hl => ?_)
                      refine lv_goto (tgt := 65) hx hb dX5_film_99 (by decide) ?_
                      exact ih37 (v34 + 1) (va_up g35 1 f45) _ _ _ hw (lv_sub hl [1, 2, 3, 4, 5, 0] rfl) h61
                    · refine g_aald F 4 rfl hw 8 rfl k42 dX5_film_76 ?_
                      refine lv_iload hx hb dX5_film_77 (lv_at hl 4 rfl) ?_
                      refine lv_iload hx hb dX5_film_79 (lv_at hl 5 rfl) ?_
                      refine lv_iadd hx hb dX5_film_81 ?_
                      refine lv_aload_n hx hb dX5_film_82 rfl (lv_at hl 0 rfl) ?_
                      refine g_get F inG5 hw 0 rfl rfl 0 (by decide) t_185 (fun _ h9 => h9) rfl dX5_film_83 ?_
                      refine lv_iload_n hx hb dX5_film_86 rfl (lv_at hl 1 rfl) ?_
                      refine lv_iload hx hb dX5_film_87 (lv_at hl 5 rfl) ?_
                      obtain ⟨r43, k44, h62⟩ := ob1 h57
                      clear h57
                      refine g_vi F (cX4_worthOfHalf_ok l d cy nw0 nw1 nw2 ng0 ng1 ng2 ng3 nw_people nw_fewest nw_kinds nw_loves ng_many ng_sets ng_chalk ng_wet ng_harvest ng_draw i1 v34 r43 k44) cal_X4_worthOfHalf t_282 rfl ⟨by decide, by decide⟩ hw (w' := List.flatten [wX cy xx0 nw0 ps0 kp0 kq0 tr0 tp0 hs0 xx_isKept, wT cy nw0 nw1 nw2 ng0 nw_people nw_fewest nw_kinds nw_loves, wG cy ng0 ng1 ng2 ng3 ng_many ng_sets ng_chalk ng_wet ng_harvest ng_draw, wH cy hs0 hs_r0 hs_r1 g35 hs_lane hs_size]) (SCut.cut (SCut.skip (SCut.take SCut.rf (SCut.take SCut.rf (SCut.skip SCut.none))))) 0 4 rfl rfl hl.1 (Nat.le_of_ble_eq_true rfl) rfl dX5_film_89 (fun H locs hw => ?_)
                      refine lv_i2l hx hb dX5_film_92 rfl ?_
                      obtain ⟨f45, k46, h63⟩ := ob1 h62
                      clear h62
                      refine g_vv F (cX2_put_ok l d cy (hs_r0 2) (hs_r1 2) (g35 2) (hs_lane 2) (hs_size 2) (i5 + v34) (Int32.toInt64 r43) f45 k46) cal_X2_put t_698 rfl ⟨by decide, by decide⟩ hw (w' := List.flatten [wX cy xx0 nw0 ps0 kp0 kq0 tr0 tp0 hs0 xx_isKept, wT cy nw0 nw1 nw2 ng0 nw_people nw_fewest nw_kinds nw_loves, wG cy ng0 ng1 ng2 ng3 ng_many ng_sets ng_chalk ng_wet ng_harvest ng_draw, wH cy hs0 hs_r0 hs_r1 (va_up g35 2 f45) hs_lane hs_size]) (SCut.cut (SCut.one (SCut.skip (SCut.skip (SCut.skip (SCut.take cutH2 SCut.none)))))) 0 2 rfl rfl hl.1 (Nat.le_of_ble_eq_true rfl) rfl dX5_film_93 (fun H locs hw => ?_)
                      refine lv_iinc (v := (v34 + 1)) (lv' := [(7, .int (v34 + 1)), (0, .ref xx0), (1, .int i1), (2, .int i2), (3, .int i3), (5, .int i5)]) hx hb dX5_film_96 hl (k := 5) rfl rfl (by decide) rfl (fun ls hl => ?_)
                      refine lv_goto (tgt := 65) hx hb dX5_film_99 (by decide) ?_
                      exact ih37 (v34 + 1) (va_up g35 2 f45) _ _ _ hw (lv_sub hl [1, 2, 3, 4, 5, 0] rfl) h63
                    · refine g_aald F 4 rfl hw 8 rfl k42 dX5_film_76 ?_
                      refine lv_iload hx hb dX5_film_77 (lv_at hl 4 rfl) ?_
                      refine lv_iload hx hb dX5_film_79 (lv_at hl 5 rfl) ?_
                      refine lv_iadd hx hb dX5_film_81 ?_
                      refine lv_aload_n hx hb dX5_film_82 rfl (lv_at hl 0 rfl) ?_
                      refine g_get F inG5 hw 0 rfl rfl 0 (by decide) t_185 (fun _ h9 => h9) rfl dX5_film_83 ?_
                      refine lv_iload_n hx hb dX5_film_86 rfl (lv_at hl 1 rfl) ?_
                      refine lv_iload hx hb dX5_film_87 (lv_at hl 5 rfl) ?_
                      obtain ⟨r43, k44, h64⟩ := ob1 h57
                      clear h57
                      refine g_vi F (cX4_worthOfHalf_ok l d cy nw0 nw1 nw2 ng0 ng1 ng2 ng3 nw_people nw_fewest nw_kinds nw_loves ng_many ng_sets ng_chalk ng_wet ng_harvest ng_draw i1 v34 r43 k44) cal_X4_worthOfHalf t_282 rfl ⟨by decide, by decide⟩ hw (w' := List.flatten [wX cy xx0 nw0 ps0 kp0 kq0 tr0 tp0 hs0 xx_isKept, wT cy nw0 nw1 nw2 ng0 nw_people nw_fewest nw_kinds nw_loves, wG cy ng0 ng1 ng2 ng3 ng_many ng_sets ng_chalk ng_wet ng_harvest ng_draw, wH cy hs0 hs_r0 hs_r1 g35 hs_lane hs_size]) (SCut.cut (SCut.skip (SCut.take SCut.rf (SCut.take SCut.rf (SCut.skip SCut.none))))) 0 4 rfl rfl hl.1 (Nat.le_of_ble_eq_true rfl) rfl dX5_film_89 (fun H locs hw => ?_)
                      refine lv_i2l hx hb dX5_film_92 rfl ?_
                      obtain ⟨f45, k46, h65⟩ := ob1 h64
                      clear h64
                      refine g_vv F (cX2_put_ok l d cy (hs_r0 3) (hs_r1 3) (g35 3) (hs_lane 3) (hs_size 3) (i5 + v34) (Int32.toInt64 r43) f45 k46) cal_X2_put t_698 rfl ⟨by decide, by decide⟩ hw (w' := List.flatten [wX cy xx0 nw0 ps0 kp0 kq0 tr0 tp0 hs0 xx_isKept, wT cy nw0 nw1 nw2 ng0 nw_people nw_fewest nw_kinds nw_loves, wG cy ng0 ng1 ng2 ng3 ng_many ng_sets ng_chalk ng_wet ng_harvest ng_draw, wH cy hs0 hs_r0 hs_r1 (va_up g35 3 f45) hs_lane hs_size]) (SCut.cut (SCut.one (SCut.skip (SCut.skip (SCut.skip (SCut.take cutH3 SCut.none)))))) 0 2 rfl rfl hl.1 (Nat.le_of_ble_eq_true rfl) rfl dX5_film_93 (fun H locs hw => ?_)
                      refine lv_iinc (v := (v34 + 1)) (lv' := [(7, .int (v34 + 1)), (0, .ref xx0), (1, .int i1), (2, .int i2), (3, .int i3), (5, .int i5)]) hx hb dX5_film_96 hl (k := 5) rfl rfl (by decide) rfl (fun ls hl => ?_)
                      refine lv_goto (tgt := 65) hx hb dX5_film_99 (by decide) ?_
                      exact ih37 (v34 + 1) (va_up g35 3 f45) _ _ _ hw (lv_sub hl [1, 2, 3, 4, 5, 0] rfl) h65
              exact loop38 fl 0 hs_items _ _ _ hw (lv_sub hl [2, 3, 4, 5, 7, 0] rfl) h53
            · rw [if_neg c17] at h52
              refine lv_iload hx hb dX5_film_59 (lv_at hl 0 rfl) ?_
              obtain ⟨rfl, rfl⟩ := inj2 h52
              exact hret _ _ _ _ hw dX5_film_61
          · refine g_aald F 4 rfl hw 8 rfl k14 dX5_film_43 ?_
            refine lv_iload hx hb dX5_film_44 (lv_at hl 4 rfl) ?_
            refine lv_iload hx hb dX5_film_46 (lv_at hl 5 rfl) ?_
            refine lv_iload_n hx hb dX5_film_48 rfl (lv_at hl 2 rfl) ?_
            obtain ⟨r15, k16, h66⟩ := ob1 h51
            clear h51
            refine g_vi F (cX2_troubleOf_ok l d cy (hs_r0 1) (hs_r1 1) (hs_items 1) (hs_lane 1) (hs_size 1) i4 i5 i2 r15 k16) cal_X2_troubleOf t_672 rfl ⟨by decide, by decide⟩ hw (w' := List.flatten [wX cy xx0 nw0 ps0 kp0 kq0 tr0 tp0 hs0 xx_isKept, wT cy nw0 nw1 nw2 ng0 nw_people nw_fewest nw_kinds nw_loves, wG cy ng0 ng1 ng2 ng3 ng_many ng_sets ng_chalk ng_wet ng_harvest ng_draw, wH cy hs0 hs_r0 hs_r1 hs_items hs_lane hs_size]) (SCut.cut (SCut.one (SCut.skip (SCut.skip (SCut.skip (SCut.take cutH1 SCut.none)))))) 0 2 rfl rfl hl.1 (Nat.le_of_ble_eq_true rfl) rfl dX5_film_49 (fun H locs hw => ?_)
            refine lv_istore (lv' := [(6, .int r15), (0, .ref xx0), (1, .int i1), (2, .int i2), (3, .int i3), (4, .int i4), (5, .int i5)]) hx hb dX5_film_52 hl (by decide) rfl (fun ls hl => ?_)
            refine lv_iload hx hb dX5_film_54 (lv_at hl 0 rfl) ?_
            refine lv_if_eq (tgt := 62) hx hb dX5_film_56 (by decide) (fun c17 => ?_) (fun c17 => ?_)
            · rw [if_pos c17] at h66
              refine lv_iconst (v := 0) hx hb dX5_film_62 (by decide) ?_
              refine lv_istore (lv' := [(7, .int 0), (6, .int r15), (0, .ref xx0), (1, .int i1), (2, .int i2), (3, .int i3), (4, .int i4), (5, .int i5)]) hx hb dX5_film_63 hl (by decide) rfl (fun ls hl => ?_)
              obtain ⟨q39, h67, h68⟩ := ob1 h66
              clear h66
              have kont36 : ∀ (H : Heap) (locs : List Loc) (ls : Array Slot), Wd d A s.heap (List.flatten [wX cy xx0 nw0 ps0 kp0 kq0 tr0 tp0 hs0 xx_isKept, wT cy nw0 nw1 nw2 ng0 nw_people nw_fewest nw_kinds nw_loves, wG cy ng0 ng1 ng2 ng3 ng_many ng_sets ng_chalk ng_wet ng_harvest ng_draw, wH cy hs0 hs_r0 hs_r1 q39 hs_lane hs_size]) H locs → lv_has ls 8 [(2, .int i2)] → W p l e (rmo 3 72) s m args below meth c H locs 0 0 Q (F0 m 102 ls []) := by
                intro H locs ls hw hl
                clear h67
                refine lv_iload_n hx hb dX5_film_102 rfl (lv_at hl 0 rfl) ?_
                obtain ⟨rfl, rfl⟩ := inj2 h68
                exact hret _ _ _ _ hw dX5_film_103
              clear h68
              have loop38 : ∀ (n : Nat) (v34 : Int32) (g35 : Nat → Nat → Int64) (H : Heap) (locs : List Loc) (ls : Array Slot), Wd d A s.heap (List.flatten [wX cy xx0 nw0 ps0 kp0 kq0 tr0 tp0 hs0 xx_isKept, wT cy nw0 nw1 nw2 ng0 nw_people nw_fewest nw_kinds nw_loves, wG cy ng0 ng1 ng2 ng3 ng_many ng_sets ng_chalk ng_wet ng_harvest ng_draw, wH cy hs0 hs_r0 hs_r1 g35 hs_lane hs_size]) H locs → lv_has ls 8 [(0, .ref xx0), (1, .int i1), (2, .int i2), (3, .int i3), (5, .int i5), (7, .int v34)] → fX5_film_L65 hs_lane i1 i2 i3 i5 ng_harvest ng_sets ng_wet nw_kinds nw_loves n v34 g35 = some (q39) → W p l e (rmo 3 72) s m args below meth c H locs 0 0 Q (F0 m 65 ls []) := by
                intro n
                induction n with
                | zero =>
                  intro v34 g35 H locs ls hw hl h69
                  rw [fX5_film_L65] at h69
                  cases h69
                | succ n ih37 =>
                  intro v34 g35 H locs ls hw hl h70
                  rw [fX5_film_L65] at h70
                  refine lv_iload hx hb dX5_film_65 (lv_at hl 5 rfl) ?_
                  refine lv_iload_n hx hb dX5_film_67 rfl (lv_at hl 2 rfl) ?_
                  refine lv_icmp_ge (tgt := 102) hx hb dX5_film_68 (by decide) (fun c40 => ?_) (fun c40 => ?_)
                  · rw [if_pos c40] at h70
                    obtain rfl := inj1 h70
                    exact kont36 _ _ _ hw (lv_sub hl [2] rfl)
                  · rw [if_neg c40] at h70
                    refine lv_aload_n hx hb dX5_film_71 rfl (lv_at hl 0 rfl) ?_
                    refine g_get F inG5 hw 0 rfl rfl 7 (by decide) t_192 (fun _ h9 => h9) rfl dX5_film_72 ?_
                    refine lv_iload_n hx hb dX5_film_75 rfl (lv_at hl 3 rfl) ?_
                    obtain ⟨j41, k42, h71⟩ := ob1 h70
                    clear h70
                    rcases ix4 k42 with rfl | rfl | rfl | rfl
                    · refine g_aald F 4 rfl hw 8 rfl k42 dX5_film_76 ?_
                      refine lv_iload hx hb dX5_film_77 (lv_at hl 4 rfl) ?_
                      refine lv_iload hx hb dX5_film_79 (lv_at hl 5 rfl) ?_
                      refine lv_iadd hx hb dX5_film_81 ?_
                      refine lv_aload_n hx hb dX5_film_82 rfl (lv_at hl 0 rfl) ?_
                      refine g_get F inG5 hw 0 rfl rfl 0 (by decide) t_185 (fun _ h9 => h9) rfl dX5_film_83 ?_
                      refine lv_iload_n hx hb dX5_film_86 rfl (lv_at hl 1 rfl) ?_
                      refine lv_iload hx hb dX5_film_87 (lv_at hl 5 rfl) ?_
                      obtain ⟨r43, k44, h72⟩ := ob1 h71
                      clear h71
                      refine g_vi F (cX4_worthOfHalf_ok l d cy nw0 nw1 nw2 ng0 ng1 ng2 ng3 nw_people nw_fewest nw_kinds nw_loves ng_many ng_sets ng_chalk ng_wet ng_harvest ng_draw i1 v34 r43 k44) cal_X4_worthOfHalf t_282 rfl ⟨by decide, by decide⟩ hw (w' := List.flatten [wX cy xx0 nw0 ps0 kp0 kq0 tr0 tp0 hs0 xx_isKept, wT cy nw0 nw1 nw2 ng0 nw_people nw_fewest nw_kinds nw_loves, wG cy ng0 ng1 ng2 ng3 ng_many ng_sets ng_chalk ng_wet ng_harvest ng_draw, wH cy hs0 hs_r0 hs_r1 g35 hs_lane hs_size]) (SCut.cut (SCut.skip (SCut.take SCut.rf (SCut.take SCut.rf (SCut.skip SCut.none))))) 0 4 rfl rfl hl.1 (Nat.le_of_ble_eq_true rfl) rfl dX5_film_89 (fun H locs hw => ?_)
                      refine lv_i2l hx hb dX5_film_92 rfl ?_
                      obtain ⟨f45, k46, h73⟩ := ob1 h72
                      clear h72
                      refine g_vv F (cX2_put_ok l d cy (hs_r0 0) (hs_r1 0) (g35 0) (hs_lane 0) (hs_size 0) (i5 + v34) (Int32.toInt64 r43) f45 k46) cal_X2_put t_698 rfl ⟨by decide, by decide⟩ hw (w' := List.flatten [wX cy xx0 nw0 ps0 kp0 kq0 tr0 tp0 hs0 xx_isKept, wT cy nw0 nw1 nw2 ng0 nw_people nw_fewest nw_kinds nw_loves, wG cy ng0 ng1 ng2 ng3 ng_many ng_sets ng_chalk ng_wet ng_harvest ng_draw, wH cy hs0 hs_r0 hs_r1 (va_up g35 0 f45) hs_lane hs_size]) (SCut.cut (SCut.one (SCut.skip (SCut.skip (SCut.skip (SCut.take cutH0 SCut.none)))))) 0 2 rfl rfl hl.1 (Nat.le_of_ble_eq_true rfl) rfl dX5_film_93 (fun H locs hw => ?_)
                      refine lv_iinc (v := (v34 + 1)) (lv' := [(7, .int (v34 + 1)), (0, .ref xx0), (1, .int i1), (2, .int i2), (3, .int i3), (5, .int i5)]) hx hb dX5_film_96 hl (k := 5) rfl rfl (by decide) rfl (fun ls hl => ?_)
                      refine lv_goto (tgt := 65) hx hb dX5_film_99 (by decide) ?_
                      exact ih37 (v34 + 1) (va_up g35 0 f45) _ _ _ hw (lv_sub hl [1, 2, 3, 4, 5, 0] rfl) h73
                    · refine g_aald F 4 rfl hw 8 rfl k42 dX5_film_76 ?_
                      refine lv_iload hx hb dX5_film_77 (lv_at hl 4 rfl) ?_
                      refine lv_iload hx hb dX5_film_79 (lv_at hl 5 rfl) ?_
                      refine lv_iadd hx hb dX5_film_81 ?_
                      refine lv_aload_n hx hb dX5_film_82 rfl (lv_at hl 0 rfl) ?_
                      refine g_get F inG5 hw 0 rfl rfl 0 (by decide) t_185 (fun _ h9 => h9) rfl dX5_film_83 ?_
                      refine lv_iload_n hx hb dX5_film_86 rfl (lv_at hl 1 rfl) ?_
                      refine lv_iload hx hb dX5_film_87 (lv_at hl 5 rfl) ?_
                      obtain ⟨r43, k44, h74⟩ := ob1 h71
                      clear h71
                      refine g_vi F (cX4_worthOfHalf_ok l d cy nw0 nw1 nw2 ng0 ng1 ng2 ng3 nw_people nw_fewest nw_kinds nw_loves ng_many ng_sets ng_chalk ng_wet ng_harvest ng_draw i1 v34 r43 k44) cal_X4_worthOfHalf t_282 rfl ⟨by decide, by decide⟩ hw (w' := List.flatten [wX cy xx0 nw0 ps0 kp0 kq0 tr0 tp0 hs0 xx_isKept, wT cy nw0 nw1 nw2 ng0 nw_people nw_fewest nw_kinds nw_loves, wG cy ng0 ng1 ng2 ng3 ng_many ng_sets ng_chalk ng_wet ng_harvest ng_draw, wH cy hs0 hs_r0 hs_r1 g35 hs_lane hs_size]) (SCut.cut (SCut.skip (SCut.take SCut.rf (SCut.take SCut.rf (SCut.skip SCut.none))))) 0 4 rfl rfl hl.1 (Nat.le_of_ble_eq_true rfl) rfl dX5_film_89 (fun H locs hw => ?_)
                      refine lv_i2l hx hb dX5_film_92 rfl ?_
                      obtain ⟨f45, k46, h75⟩ := ob1 h74
                      clear h74
                      refine g_vv F (cX2_put_ok l d cy (hs_r0 1) (hs_r1 1) (g35 1) (hs_lane 1) (hs_size 1) (i5 + v34) (Int32.toInt64 r43) f45 k46) cal_X2_put t_698 rfl ⟨by decide, by decide⟩ hw (w' := List.flatten [wX cy xx0 nw0 ps0 kp0 kq0 tr0 tp0 hs0 xx_isKept, wT cy nw0 nw1 nw2 ng0 nw_people nw_fewest nw_kinds nw_loves, wG cy ng0 ng1 ng2 ng3 ng_many ng_sets ng_chalk ng_wet ng_harvest ng_draw, wH cy hs0 hs_r0 hs_r1 (va_up g35 1 f45) hs_lane hs_size]) (SCut.cut (SCut.one (SCut.skip (SCut.skip (SCut.skip (SCut.take cutH1 SCut.none)))))) 0 2 rfl rfl hl.1 (Nat.le_of_ble_eq_true rfl) rfl dX5_film_93 (fun H locs hw => ?_)
                      refine lv_iinc (v := (v34 + 1)) (lv' := [(7, .int (v34 + 1)), (0, .ref xx0), (1, .int i1), (2, .int i2), (3, .int i3), (5, .int i5)]) hx hb dX5_film_96 hl (k := 5) rfl rfl (by decide) rfl (fun ls hl => ?_)
                      refine lv_goto (tgt := 65) hx hb dX5_film_99 (by decide) ?_
                      exact ih37 (v34 + 1) (va_up g35 1 f45) _ _ _ hw (lv_sub hl [1, 2, 3, 4, 5, 0] rfl) h75
                    · refine g_aald F 4 rfl hw 8 rfl k42 dX5_film_76 ?_
                      refine lv_iload hx hb dX5_film_77 (lv_at hl 4 rfl) ?_
                      refine lv_iload hx hb dX5_film_79 (lv_at hl 5 rfl) ?_
                      refine lv_iadd hx hb dX5_film_81 ?_
                      refine lv_aload_n hx hb dX5_film_82 rfl (lv_at hl 0 rfl) ?_
                      refine g_get F inG5 hw 0 rfl rfl 0 (by decide) t_185 (fun _ h9 => h9) rfl dX5_film_83 ?_
                      refine lv_iload_n hx hb dX5_film_86 rfl (lv_at hl 1 rfl) ?_
                      refine lv_iload hx hb dX5_film_87 (lv_at hl 5 rfl) ?_
                      obtain ⟨r43, k44, h76⟩ := ob1 h71
                      clear h71
                      refine g_vi F (cX4_worthOfHalf_ok l d cy nw0 nw1 nw2 ng0 ng1 ng2 ng3 nw_people nw_fewest nw_kinds nw_loves ng_many ng_sets ng_chalk ng_wet ng_harvest ng_draw i1 v34 r43 k44) cal_X4_worthOfHalf t_282 rfl ⟨by decide, by decide⟩ hw (w' := List.flatten [wX cy xx0 nw0 ps0 kp0 kq0 tr0 tp0 hs0 xx_isKept, wT cy nw0 nw1 nw2 ng0 nw_people nw_fewest nw_kinds nw_loves, wG cy ng0 ng1 ng2 ng3 ng_many ng_sets ng_chalk ng_wet ng_harvest ng_draw, wH cy hs0 hs_r0 hs_r1 g35 hs_lane hs_size]) (SCut.cut (SCut.skip (SCut.take SCut.rf (SCut.take SCut.rf (SCut.skip SCut.none))))) 0 4 rfl rfl hl.1 (Nat.le_of_ble_eq_true rfl) rfl dX5_film_89 (fun H locs hw => ?_)
                      refine lv_i2l hx hb dX5_film_92 rfl ?_
                      obtain ⟨f45, k46, h77⟩ := ob1 h76
                      clear h76
                      refine g_vv F (cX2_put_ok l d cy (hs_r0 2) (hs_r1 2) (g35 2) (hs_lane 2) (hs_size 2) (i5 + v34) (Int32.toInt64 r43) f45 k46) cal_X2_put t_698 rfl ⟨by decide, by decide⟩ hw (w' := List.flatten [wX cy xx0 nw0 ps0 kp0 kq0 tr0 tp0 hs0 xx_isKept, wT cy nw0 nw1 nw2 ng0 nw_people nw_fewest nw_kinds nw_loves, wG cy ng0 ng1 ng2 ng3 ng_many ng_sets ng_chalk ng_wet ng_harvest ng_draw, wH cy hs0 hs_r0 hs_r1 (va_up g35 2 f45) hs_lane hs_size]) (SCut.cut (SCut.one (SCut.skip (SCut.skip (SCut.skip (SCut.take cutH2 SCut.none)))))) 0 2 rfl rfl hl.1 (Nat.le_of_ble_eq_true rfl) rfl dX5_film_93 (fun H locs hw => ?_)
                      refine lv_iinc (v := (v34 + 1)) (lv' := [(7, .int (v34 + 1)), (0, .ref xx0), (1, .int i1), (2, .int i2), (3, .int i3), (5, .int i5)]) hx hb dX5_film_96 hl (k := 5) rfl rfl (by decide) rfl (fun ls hl => ?_)
                      refine lv_goto (tgt := 65) hx hb dX5_film_99 (by decide) ?_
                      exact ih37 (v34 + 1) (va_up g35 2 f45) _ _ _ hw (lv_sub hl [1, 2, 3, 4, 5, 0] rfl) h77
                    · refine g_aald F 4 rfl hw 8 rfl k42 dX5_film_76 ?_
                      refine lv_iload hx hb dX5_film_77 (lv_at hl 4 rfl) ?_
                      refine lv_iload hx hb dX5_film_79 (lv_at hl 5 rfl) ?_
                      refine lv_iadd hx hb dX5_film_81 ?_
                      refine lv_aload_n hx hb dX5_film_82 rfl (lv_at hl 0 rfl) ?_
                      refine g_get F inG5 hw 0 rfl rfl 0 (by decide) t_185 (fun _ h9 => h9) rfl dX5_film_83 ?_
                      refine lv_iload_n hx hb dX5_film_86 rfl (lv_at hl 1 rfl) ?_
                      refine lv_iload hx hb dX5_film_87 (lv_at hl 5 rfl) ?_
                      obtain ⟨r43, k44, h78⟩ := ob1 h71
                      clear h71
                      refine g_vi F (cX4_worthOfHalf_ok l d cy nw0 nw1 nw2 ng0 ng1 ng2 ng3 nw_people nw_fewest nw_kinds nw_loves ng_many ng_sets ng_chalk ng_wet ng_harvest ng_draw i1 v34 r43 k44) cal_X4_worthOfHalf t_282 rfl ⟨by decide, by decide⟩ hw (w' := List.flatten [wX cy xx0 nw0 ps0 kp0 kq0 tr0 tp0 hs0 xx_isKept, wT cy nw0 nw1 nw2 ng0 nw_people nw_fewest nw_kinds nw_loves, wG cy ng0 ng1 ng2 ng3 ng_many ng_sets ng_chalk ng_wet ng_harvest ng_draw, wH cy hs0 hs_r0 hs_r1 g35 hs_lane hs_size]) (SCut.cut (SCut.skip (SCut.take SCut.rf (SCut.take SCut.rf (SCut.skip SCut.none))))) 0 4 rfl rfl hl.1 (Nat.le_of_ble_eq_true rfl) rfl dX5_film_89 (fun H locs hw => ?_)
                      refine lv_i2l hx hb dX5_film_92 rfl ?_
                      obtain ⟨f45, k46, h79⟩ := ob1 h78
                      clear h78
                      refine g_vv F (cX2_put_ok l d cy (hs_r0 3) (hs_r1 3) (g35 3) (hs_lane 3) (hs_size 3) (i5 + v34) (Int32.toInt64 r43) f45 k46) cal_X2_put t_698 rfl ⟨by decide, by decide⟩ hw (w' := List.flatten [wX cy xx0 nw0 ps0 kp0 kq0 tr0 tp0 hs0 xx_isKept, wT cy nw0 nw1 nw2 ng0 nw_people nw_fewest nw_kinds nw_loves, wG cy ng0 ng1 ng2 ng3 ng_many ng_sets ng_chalk ng_wet ng_harvest ng_draw, wH cy hs0 hs_r0 hs_r1 (va_up g35 3 f45) hs_lane hs_size]) (SCut.cut (SCut.one (SCut.skip (SCut.skip (SCut.skip (SCut.take cutH3 SCut.none)))))) 0 2 rfl rfl hl.1 (Nat.le_of_ble_eq_true rfl) rfl dX5_film_93 (fun H locs hw => ?_)
                      refine lv_iinc (v := (v34 + 1)) (lv' := [(7, .int (v34 + 1)), (0, .ref xx0), (1, .int i1), (2, .int i2), (3, .int i3), (5, .int i5)]) hx hb dX5_film_96 hl (k := 5) rfl rfl (by decide) rfl (fun ls hl => ?_)
                      refine lv_goto (tgt := 65) hx hb dX5_film_99 (by decide) ?_
                      exact ih37 (v34 + 1) (va_up g35 3 f45) _ _ _ hw (lv_sub hl [1, 2, 3, 4, 5, 0] rfl) h79
              exact loop38 fl 0 hs_items _ _ _ hw (lv_sub hl [2, 3, 4, 5, 7, 0] rfl) h67
            · rw [if_neg c17] at h66
              refine lv_iload hx hb dX5_film_59 (lv_at hl 0 rfl) ?_
              obtain ⟨rfl, rfl⟩ := inj2 h66
              exact hret _ _ _ _ hw dX5_film_61
          · refine g_aald F 4 rfl hw 8 rfl k14 dX5_film_43 ?_
            refine lv_iload hx hb dX5_film_44 (lv_at hl 4 rfl) ?_
            refine lv_iload hx hb dX5_film_46 (lv_at hl 5 rfl) ?_
            refine lv_iload_n hx hb dX5_film_48 rfl (lv_at hl 2 rfl) ?_
            obtain ⟨r15, k16, h80⟩ := ob1 h51
            clear h51
            refine g_vi F (cX2_troubleOf_ok l d cy (hs_r0 2) (hs_r1 2) (hs_items 2) (hs_lane 2) (hs_size 2) i4 i5 i2 r15 k16) cal_X2_troubleOf t_672 rfl ⟨by decide, by decide⟩ hw (w' := List.flatten [wX cy xx0 nw0 ps0 kp0 kq0 tr0 tp0 hs0 xx_isKept, wT cy nw0 nw1 nw2 ng0 nw_people nw_fewest nw_kinds nw_loves, wG cy ng0 ng1 ng2 ng3 ng_many ng_sets ng_chalk ng_wet ng_harvest ng_draw, wH cy hs0 hs_r0 hs_r1 hs_items hs_lane hs_size]) (SCut.cut (SCut.one (SCut.skip (SCut.skip (SCut.skip (SCut.take cutH2 SCut.none)))))) 0 2 rfl rfl hl.1 (Nat.le_of_ble_eq_true rfl) rfl dX5_film_49 (fun H locs hw => ?_)
            refine lv_istore (lv' := [(6, .int r15), (0, .ref xx0), (1, .int i1), (2, .int i2), (3, .int i3), (4, .int i4), (5, .int i5)]) hx hb dX5_film_52 hl (by decide) rfl (fun ls hl => ?_)
            refine lv_iload hx hb dX5_film_54 (lv_at hl 0 rfl) ?_
            refine lv_if_eq (tgt := 62) hx hb dX5_film_56 (by decide) (fun c17 => ?_) (fun c17 => ?_)
            · rw [if_pos c17] at h80
              refine lv_iconst (v := 0) hx hb dX5_film_62 (by decide) ?_
              refine lv_istore (lv' := [(7, .int 0), (6, .int r15), (0, .ref xx0), (1, .int i1), (2, .int i2), (3, .int i3), (4, .int i4), (5, .int i5)]) hx hb dX5_film_63 hl (by decide) rfl (fun ls hl => ?_)
              obtain ⟨q39, h81, h82⟩ := ob1 h80
              clear h80
              have kont36 : ∀ (H : Heap) (locs : List Loc) (ls : Array Slot), Wd d A s.heap (List.flatten [wX cy xx0 nw0 ps0 kp0 kq0 tr0 tp0 hs0 xx_isKept, wT cy nw0 nw1 nw2 ng0 nw_people nw_fewest nw_kinds nw_loves, wG cy ng0 ng1 ng2 ng3 ng_many ng_sets ng_chalk ng_wet ng_harvest ng_draw, wH cy hs0 hs_r0 hs_r1 q39 hs_lane hs_size]) H locs → lv_has ls 8 [(2, .int i2)] → W p l e (rmo 3 72) s m args below meth c H locs 0 0 Q (F0 m 102 ls []) := by
                intro H locs ls hw hl
                clear h81
                refine lv_iload_n hx hb dX5_film_102 rfl (lv_at hl 0 rfl) ?_
                obtain ⟨rfl, rfl⟩ := inj2 h82
                exact hret _ _ _ _ hw dX5_film_103
              clear h82
              have loop38 : ∀ (n : Nat) (v34 : Int32) (g35 : Nat → Nat → Int64) (H : Heap) (locs : List Loc) (ls : Array Slot), Wd d A s.heap (List.flatten [wX cy xx0 nw0 ps0 kp0 kq0 tr0 tp0 hs0 xx_isKept, wT cy nw0 nw1 nw2 ng0 nw_people nw_fewest nw_kinds nw_loves, wG cy ng0 ng1 ng2 ng3 ng_many ng_sets ng_chalk ng_wet ng_harvest ng_draw, wH cy hs0 hs_r0 hs_r1 g35 hs_lane hs_size]) H locs → lv_has ls 8 [(0, .ref xx0), (1, .int i1), (2, .int i2), (3, .int i3), (5, .int i5), (7, .int v34)] → fX5_film_L65 hs_lane i1 i2 i3 i5 ng_harvest ng_sets ng_wet nw_kinds nw_loves n v34 g35 = some (q39) → W p l e (rmo 3 72) s m args below meth c H locs 0 0 Q (F0 m 65 ls []) := by
                intro n
                induction n with
                | zero =>
                  intro v34 g35 H locs ls hw hl h83
                  rw [fX5_film_L65] at h83
                  cases h83
                | succ n ih37 =>
                  intro v34 g35 H locs ls hw hl h84
                  rw [fX5_film_L65] at h84
                  refine lv_iload hx hb dX5_film_65 (lv_at hl 5 rfl) ?_
                  refine lv_iload_n hx hb dX5_film_67 rfl (lv_at hl 2 rfl) ?_
                  refine lv_icmp_ge (tgt := 102) hx hb dX5_film_68 (by decide) (fun c40 => ?_) (fun c40 => ?_)
                  · rw [if_pos c40] at h84
                    obtain rfl := inj1 h84
                    exact kont36 _ _ _ hw (lv_sub hl [2] rfl)
                  · rw [if_neg c40] at h84
                    refine lv_aload_n hx hb dX5_film_71 rfl (lv_at hl 0 rfl) ?_
                    refine g_get F inG5 hw 0 rfl rfl 7 (by decide) t_192 (fun _ h9 => h9) rfl dX5_film_72 ?_
                    refine lv_iload_n hx hb dX5_film_75 rfl (lv_at hl 3 rfl) ?_
                    obtain ⟨j41, k42, h85⟩ := ob1 h84
                    clear h84
                    rcases ix4 k42 with rfl | rfl | rfl | rfl
                    · refine g_aald F 4 rfl hw 8 rfl k42 dX5_film_76 ?_
                      refine lv_iload hx hb dX5_film_77 (lv_at hl 4 rfl) ?_
                      refine lv_iload hx hb dX5_film_79 (lv_at hl 5 rfl) ?_
                      refine lv_iadd hx hb dX5_film_81 ?_
                      refine lv_aload_n hx hb dX5_film_82 rfl (lv_at hl 0 rfl) ?_
                      refine g_get F inG5 hw 0 rfl rfl 0 (by decide) t_185 (fun _ h9 => h9) rfl dX5_film_83 ?_
                      refine lv_iload_n hx hb dX5_film_86 rfl (lv_at hl 1 rfl) ?_
                      refine lv_iload hx hb dX5_film_87 (lv_at hl 5 rfl) ?_
                      obtain ⟨r43, k44, h86⟩ := ob1 h85
                      clear h85
                      refine g_vi F (cX4_worthOfHalf_ok l d cy nw0 nw1 nw2 ng0 ng1 ng2 ng3 nw_people nw_fewest nw_kinds nw_loves ng_many ng_sets ng_chalk ng_wet ng_harvest ng_draw i1 v34 r43 k44) cal_X4_worthOfHalf t_282 rfl ⟨by decide, by decide⟩ hw (w' := List.flatten [wX cy xx0 nw0 ps0 kp0 kq0 tr0 tp0 hs0 xx_isKept, wT cy nw0 nw1 nw2 ng0 nw_people nw_fewest nw_kinds nw_loves, wG cy ng0 ng1 ng2 ng3 ng_many ng_sets ng_chalk ng_wet ng_harvest ng_draw, wH cy hs0 hs_r0 hs_r1 g35 hs_lane hs_size]) (SCut.cut (SCut.skip (SCut.take SCut.rf (SCut.take SCut.rf (SCut.skip SCut.none))))) 0 4 rfl rfl hl.1 (Nat.le_of_ble_eq_true rfl) rfl dX5_film_89 (fun H locs hw => ?_)
                      refine lv_i2l hx hb dX5_film_92 rfl ?_
                      obtain ⟨f45, k46, h87⟩ := ob1 h86
                      clear h86
                      refine g_vv F (cX2_put_ok l d cy (hs_r0 0) (hs_r1 0) (g35 0) (hs_lane 0) (hs_size 0) (i5 + v34) (Int32.toInt64 r43) f45 k46) cal_X2_put t_698 rfl ⟨by decide, by decide⟩ hw (w' := List.flatten [wX cy xx0 nw0 ps0 kp0 kq0 tr0 tp0 hs0 xx_isKept, wT cy nw0 nw1 nw2 ng0 nw_people nw_fewest nw_kinds nw_loves, wG cy ng0 ng1 ng2 ng3 ng_many ng_sets ng_chalk ng_wet ng_harvest ng_draw, wH cy hs0 hs_r0 hs_r1 (va_up g35 0 f45) hs_lane hs_size]) (SCut.cut (SCut.one (SCut.skip (SCut.skip (SCut.skip (SCut.take cutH0 SCut.none)))))) 0 2 rfl rfl hl.1 (Nat.le_of_ble_eq_true rfl) rfl dX5_film_93 (fun H locs hw => ?_)
                      refine lv_iinc (v := (v34 + 1)) (lv' := [(7, .int (v34 + 1)), (0, .ref xx0), (1, .int i1), (2, .int i2), (3, .int i3), (5, .int i5)]) hx hb dX5_film_96 hl (k := 5) rfl rfl (by decide) rfl (fun ls hl => ?_)
                      refine lv_goto (tgt := 65) hx hb dX5_film_99 (by decide) ?_
                      exact ih37 (v34 + 1) (va_up g35 0 f45) _ _ _ hw (lv_sub hl [1, 2, 3, 4, 5, 0] rfl) h87
                    · refine g_aald F 4 rfl hw 8 rfl k42 dX5_film_76 ?_
                      refine lv_iload hx hb dX5_film_77 (lv_at hl 4 rfl) ?_
                      refine lv_iload hx hb dX5_film_79 (lv_at hl 5 rfl) ?_
                      refine lv_iadd hx hb dX5_film_81 ?_
                      refine lv_aload_n hx hb dX5_film_82 rfl (lv_at hl 0 rfl) ?_
                      refine g_get F inG5 hw 0 rfl rfl 0 (by decide) t_185 (fun _ h9 => h9) rfl dX5_film_83 ?_
                      refine lv_iload_n hx hb dX5_film_86 rfl (lv_at hl 1 rfl) ?_
                      refine lv_iload hx hb dX5_film_87 (lv_at hl 5 rfl) ?_
                      obtain ⟨r43, k44, h88⟩ := ob1 h85
                      clear h85
                      refine g_vi F (cX4_worthOfHalf_ok l d cy nw0 nw1 nw2 ng0 ng1 ng2 ng3 nw_people nw_fewest nw_kinds nw_loves ng_many ng_sets ng_chalk ng_wet ng_harvest ng_draw i1 v34 r43 k44) cal_X4_worthOfHalf t_282 rfl ⟨by decide, by decide⟩ hw (w' := List.flatten [wX cy xx0 nw0 ps0 kp0 kq0 tr0 tp0 hs0 xx_isKept, wT cy nw0 nw1 nw2 ng0 nw_people nw_fewest nw_kinds nw_loves, wG cy ng0 ng1 ng2 ng3 ng_many ng_sets ng_chalk ng_wet ng_harvest ng_draw, wH cy hs0 hs_r0 hs_r1 g35 hs_lane hs_size]) (SCut.cut (SCut.skip (SCut.take SCut.rf (SCut.take SCut.rf (SCut.skip SCut.none))))) 0 4 rfl rfl hl.1 (Nat.le_of_ble_eq_true rfl) rfl dX5_film_89 (fun H locs hw => ?_)
                      refine lv_i2l hx hb dX5_film_92 rfl ?_
                      obtain ⟨f45, k46, h89⟩ := ob1 h88
                      clear h88
                      refine g_vv F (cX2_put_ok l d cy (hs_r0 1) (hs_r1 1) (g35 1) (hs_lane 1) (hs_size 1) (i5 + v34) (Int32.toInt64 r43) f45 k46) cal_X2_put t_698 rfl ⟨by decide, by decide⟩ hw (w' := List.flatten [wX cy xx0 nw0 ps0 kp0 kq0 tr0 tp0 hs0 xx_isKept, wT cy nw0 nw1 nw2 ng0 nw_people nw_fewest nw_kinds nw_loves, wG cy ng0 ng1 ng2 ng3 ng_many ng_sets ng_chalk ng_wet ng_harvest ng_draw, wH cy hs0 hs_r0 hs_r1 (va_up g35 1 f45) hs_lane hs_size]) (SCut.cut (SCut.one (SCut.skip (SCut.skip (SCut.skip (SCut.take cutH1 SCut.none)))))) 0 2 rfl rfl hl.1 (Nat.le_of_ble_eq_true rfl) rfl dX5_film_93 (fun H locs hw => ?_)
                      refine lv_iinc (v := (v34 + 1)) (lv' := [(7, .int (v34 + 1)), (0, .ref xx0), (1, .int i1), (2, .int i2), (3, .int i3), (5, .int i5)]) hx hb dX5_film_96 hl (k := 5) rfl rfl (by decide) rfl (fun ls hl => ?_)
                      refine lv_goto (tgt := 65) hx hb dX5_film_99 (by decide) ?_
                      exact ih37 (v34 + 1) (va_up g35 1 f45) _ _ _ hw (lv_sub hl [1, 2, 3, 4, 5, 0] rfl) h89
                    · refine g_aald F 4 rfl hw 8 rfl k42 dX5_film_76 ?_
                      refine lv_iload hx hb dX5_film_77 (lv_at hl 4 rfl) ?_
                      refine lv_iload hx hb dX5_film_79 (lv_at hl 5 rfl) ?_
                      refine lv_iadd hx hb dX5_film_81 ?_
                      refine lv_aload_n hx hb dX5_film_82 rfl (lv_at hl 0 rfl) ?_
                      refine g_get F inG5 hw 0 rfl rfl 0 (by decide) t_185 (fun _ h9 => h9) rfl dX5_film_83 ?_
                      refine lv_iload_n hx hb dX5_film_86 rfl (lv_at hl 1 rfl) ?_
                      refine lv_iload hx hb dX5_film_87 (lv_at hl 5 rfl) ?_
                      obtain ⟨r43, k44, h90⟩ := ob1 h85
                      clear h85
                      refine g_vi F (cX4_worthOfHalf_ok l d cy nw0 nw1 nw2 ng0 ng1 ng2 ng3 nw_people nw_fewest nw_kinds nw_loves ng_many ng_sets ng_chalk ng_wet ng_harvest ng_draw i1 v34 r43 k44) cal_X4_worthOfHalf t_282 rfl ⟨by decide, by decide⟩ hw (w' := List.flatten [wX cy xx0 nw0 ps0 kp0 kq0 tr0 tp0 hs0 xx_isKept, wT cy nw0 nw1 nw2 ng0 nw_people nw_fewest nw_kinds nw_loves, wG cy ng0 ng1 ng2 ng3 ng_many ng_sets ng_chalk ng_wet ng_harvest ng_draw, wH cy hs0 hs_r0 hs_r1 g35 hs_lane hs_size]) (SCut.cut (SCut.skip (SCut.take SCut.rf (SCut.take SCut.rf (SCut.skip SCut.none))))) 0 4 rfl rfl hl.1 (Nat.le_of_ble_eq_true rfl) rfl dX5_film_89 (fun H locs hw => ?_)
                      refine lv_i2l hx hb dX5_film_92 rfl ?_
                      obtain ⟨f45, k46, h91⟩ := ob1 h90
                      clear h90
                      refine g_vv F (cX2_put_ok l d cy (hs_r0 2) (hs_r1 2) (g35 2) (hs_lane 2) (hs_size 2) (i5 + v34) (Int32.toInt64 r43) f45 k46) cal_X2_put t_698 rfl ⟨by decide, by decide⟩ hw (w' := List.flatten [wX cy xx0 nw0 ps0 kp0 kq0 tr0 tp0 hs0 xx_isKept, wT cy nw0 nw1 nw2 ng0 nw_people nw_fewest nw_kinds nw_loves, wG cy ng0 ng1 ng2 ng3 ng_many ng_sets ng_chalk ng_wet ng_harvest ng_draw, wH cy hs0 hs_r0 hs_r1 (va_up g35 2 f45) hs_lane hs_size]) (SCut.cut (SCut.one (SCut.skip (SCut.skip (SCut.skip (SCut.take cutH2 SCut.none)))))) 0 2 rfl rfl hl.1 (Nat.le_of_ble_eq_true rfl) rfl dX5_film_93 (fun H locs hw => ?_)
                      refine lv_iinc (v := (v34 + 1)) (lv' := [(7, .int (v34 + 1)), (0, .ref xx0), (1, .int i1), (2, .int i2), (3, .int i3), (5, .int i5)]) hx hb dX5_film_96 hl (k := 5) rfl rfl (by decide) rfl (fun ls hl => ?_)
                      refine lv_goto (tgt := 65) hx hb dX5_film_99 (by decide) ?_
                      exact ih37 (v34 + 1) (va_up g35 2 f45) _ _ _ hw (lv_sub hl [1, 2, 3, 4, 5, 0] rfl) h91
                    · refine g_aald F 4 rfl hw 8 rfl k42 dX5_film_76 ?_
                      refine lv_iload hx hb dX5_film_77 (lv_at hl 4 rfl) ?_
                      refine lv_iload hx hb dX5_film_79 (lv_at hl 5 rfl) ?_
                      refine lv_iadd hx hb dX5_film_81 ?_
                      refine lv_aload_n hx hb dX5_film_82 rfl (lv_at hl 0 rfl) ?_
                      refine g_get F inG5 hw 0 rfl rfl 0 (by decide) t_185 (fun _ h9 => h9) rfl dX5_film_83 ?_
                      refine lv_iload_n hx hb dX5_film_86 rfl (lv_at hl 1 rfl) ?_
                      refine lv_iload hx hb dX5_film_87 (lv_at hl 5 rfl) ?_
                      obtain ⟨r43, k44, h92⟩ := ob1 h85
                      clear h85
                      refine g_vi F (cX4_worthOfHalf_ok l d cy nw0 nw1 nw2 ng0 ng1 ng2 ng3 nw_people nw_fewest nw_kinds nw_loves ng_many ng_sets ng_chalk ng_wet ng_harvest ng_draw i1 v34 r43 k44) cal_X4_worthOfHalf t_282 rfl ⟨by decide, by decide⟩ hw (w' := List.flatten [wX cy xx0 nw0 ps0 kp0 kq0 tr0 tp0 hs0 xx_isKept, wT cy nw0 nw1 nw2 ng0 nw_people nw_fewest nw_kinds nw_loves, wG cy ng0 ng1 ng2 ng3 ng_many ng_sets ng_chalk ng_wet ng_harvest ng_draw, wH cy hs0 hs_r0 hs_r1 g35 hs_lane hs_size]) (SCut.cut (SCut.skip (SCut.take SCut.rf (SCut.take SCut.rf (SCut.skip SCut.none))))) 0 4 rfl rfl hl.1 (Nat.le_of_ble_eq_true rfl) rfl dX5_film_89 (fun H locs hw => ?_)
                      refine lv_i2l hx hb dX5_film_92 rfl ?_
                      obtain ⟨f45, k46, h93⟩ := ob1 h92
                      clear h92
                      refine g_vv F (cX2_put_ok l d cy (hs_r0 3) (hs_r1 3) (g35 3) (hs_lane 3) (hs_size 3) (i5 + v34) (Int32.toInt64 r43) f45 k46) cal_X2_put t_698 rfl ⟨by decide, by decide⟩ hw (w' := List.flatten [wX cy xx0 nw0 ps0 kp0 kq0 tr0 tp0 hs0 xx_isKept, wT cy nw0 nw1 nw2 ng0 nw_people nw_fewest nw_kinds nw_loves, wG cy ng0 ng1 ng2 ng3 ng_many ng_sets ng_chalk ng_wet ng_harvest ng_draw, wH cy hs0 hs_r0 hs_r1 (va_up g35 3 f45) hs_lane hs_size]) (SCut.cut (SCut.one (SCut.skip (SCut.skip (SCut.skip (SCut.take cutH3 SCut.none)))))) 0 2 rfl rfl hl.1 (Nat.le_of_ble_eq_true rfl) rfl dX5_film_93 (fun H locs hw => ?_)
                      refine lv_iinc (v := (v34 + 1)) (lv' := [(7, .int (v34 + 1)), (0, .ref xx0), (1, .int i1), (2, .int i2), (3, .int i3), (5, .int i5)]) hx hb dX5_film_96 hl (k := 5) rfl rfl (by decide) rfl (fun ls hl => ?_)
                      refine lv_goto (tgt := 65) hx hb dX5_film_99 (by decide) ?_
                      exact ih37 (v34 + 1) (va_up g35 3 f45) _ _ _ hw (lv_sub hl [1, 2, 3, 4, 5, 0] rfl) h93
              exact loop38 fl 0 hs_items _ _ _ hw (lv_sub hl [2, 3, 4, 5, 7, 0] rfl) h81
            · rw [if_neg c17] at h80
              refine lv_iload hx hb dX5_film_59 (lv_at hl 0 rfl) ?_
              obtain ⟨rfl, rfl⟩ := inj2 h80
              exact hret _ _ _ _ hw dX5_film_61
          · refine g_aald F 4 rfl hw 8 rfl k14 dX5_film_43 ?_
            refine lv_iload hx hb dX5_film_44 (lv_at hl 4 rfl) ?_
            refine lv_iload hx hb dX5_film_46 (lv_at hl 5 rfl) ?_
            refine lv_iload_n hx hb dX5_film_48 rfl (lv_at hl 2 rfl) ?_
            obtain ⟨r15, k16, h94⟩ := ob1 h51
            clear h51
            refine g_vi F (cX2_troubleOf_ok l d cy (hs_r0 3) (hs_r1 3) (hs_items 3) (hs_lane 3) (hs_size 3) i4 i5 i2 r15 k16) cal_X2_troubleOf t_672 rfl ⟨by decide, by decide⟩ hw (w' := List.flatten [wX cy xx0 nw0 ps0 kp0 kq0 tr0 tp0 hs0 xx_isKept, wT cy nw0 nw1 nw2 ng0 nw_people nw_fewest nw_kinds nw_loves, wG cy ng0 ng1 ng2 ng3 ng_many ng_sets ng_chalk ng_wet ng_harvest ng_draw, wH cy hs0 hs_r0 hs_r1 hs_items hs_lane hs_size]) (SCut.cut (SCut.one (SCut.skip (SCut.skip (SCut.skip (SCut.take cutH3 SCut.none)))))) 0 2 rfl rfl hl.1 (Nat.le_of_ble_eq_true rfl) rfl dX5_film_49 (fun H locs hw => ?_)
            refine lv_istore (lv' := [(6, .int r15), (0, .ref xx0), (1, .int i1), (2, .int i2), (3, .int i3), (4, .int i4), (5, .int i5)]) hx hb dX5_film_52 hl (by decide) rfl (fun ls hl => ?_)
            refine lv_iload hx hb dX5_film_54 (lv_at hl 0 rfl) ?_
            refine lv_if_eq (tgt := 62) hx hb dX5_film_56 (by decide) (fun c17 => ?_) (fun c17 => ?_)
            · rw [if_pos c17] at h94
              refine lv_iconst (v := 0) hx hb dX5_film_62 (by decide) ?_
              refine lv_istore (lv' := [(7, .int 0), (6, .int r15), (0, .ref xx0), (1, .int i1), (2, .int i2), (3, .int i3), (4, .int i4), (5, .int i5)]) hx hb dX5_film_63 hl (by decide) rfl (fun ls hl => ?_)
              obtain ⟨q39, h95, h96⟩ := ob1 h94
              clear h94
              have kont36 : ∀ (H : Heap) (locs : List Loc) (ls : Array Slot), Wd d A s.heap (List.flatten [wX cy xx0 nw0 ps0 kp0 kq0 tr0 tp0 hs0 xx_isKept, wT cy nw0 nw1 nw2 ng0 nw_people nw_fewest nw_kinds nw_loves, wG cy ng0 ng1 ng2 ng3 ng_many ng_sets ng_chalk ng_wet ng_harvest ng_draw, wH cy hs0 hs_r0 hs_r1 q39 hs_lane hs_size]) H locs → lv_has ls 8 [(2, .int i2)] → W p l e (rmo 3 72) s m args below meth c H locs 0 0 Q (F0 m 102 ls []) := by
                intro H locs ls hw hl
                clear h95
                refine lv_iload_n hx hb dX5_film_102 rfl (lv_at hl 0 rfl) ?_
                obtain ⟨rfl, rfl⟩ := inj2 h96
                exact hret _ _ _ _ hw dX5_film_103
              clear h96
              have loop38 : ∀ (n : Nat) (v34 : Int32) (g35 : Nat → Nat → Int64) (H : Heap) (locs : List Loc) (ls : Array Slot), Wd d A s.heap (List.flatten [wX cy xx0 nw0 ps0 kp0 kq0 tr0 tp0 hs0 xx_isKept, wT cy nw0 nw1 nw2 ng0 nw_people nw_fewest nw_kinds nw_loves, wG cy ng0 ng1 ng2 ng3 ng_many ng_sets ng_chalk ng_wet ng_harvest ng_draw, wH cy hs0 hs_r0 hs_r1 g35 hs_lane hs_size]) H locs → lv_has ls 8 [(0, .ref xx0), (1, .int i1), (2, .int i2), (3, .int i3), (5, .int i5), (7, .int v34)] → fX5_film_L65 hs_lane i1 i2 i3 i5 ng_harvest ng_sets ng_wet nw_kinds nw_loves n v34 g35 = some (q39) → W p l e (rmo 3 72) s m args below meth c H locs 0 0 Q (F0 m 65 ls []) := by
                intro n
                induction n with
                | zero =>
                  intro v34 g35 H locs ls hw hl h97
                  rw [fX5_film_L65] at h97
                  cases h97
                | succ n ih37 =>
                  intro v34 g35 H locs ls hw hl h98
                  rw [fX5_film_L65] at h98
                  refine lv_iload hx hb dX5_film_65 (lv_at hl 5 rfl) ?_
                  refine lv_iload_n hx hb dX5_film_67 rfl (lv_at hl 2 rfl) ?_
                  refine lv_icmp_ge (tgt := 102) hx hb dX5_film_68 (by decide) (fun c40 => ?_) (fun c40 => ?_)
                  · rw [if_pos c40] at h98
                    obtain rfl := inj1 h98
                    exact kont36 _ _ _ hw (lv_sub hl [2] rfl)
                  · rw [if_neg c40] at h98
                    refine lv_aload_n hx hb dX5_film_71 rfl (lv_at hl 0 rfl) ?_
                    refine g_get F inG5 hw 0 rfl rfl 7 (by decide) t_192 (fun _ h9 => h9) rfl dX5_film_72 ?_
                    refine lv_iload_n hx hb dX5_film_75 rfl (lv_at hl 3 rfl) ?_
                    obtain ⟨j41, k42, h99⟩ := ob1 h98
                    clear h98
                    rcases ix4 k42 with rfl | rfl | rfl | rfl
                    · refine g_aald F 4 rfl hw 8 rfl k42 dX5_film_76 ?_
                      refine lv_iload hx hb dX5_film_77 (lv_at hl 4 rfl) ?_
                      refine lv_iload hx hb dX5_film_79 (lv_at hl 5 rfl) ?_
                      refine lv_iadd hx hb dX5_film_81 ?_
                      refine lv_aload_n hx hb dX5_film_82 rfl (lv_at hl 0 rfl) ?_
                      refine g_get F inG5 hw 0 rfl rfl 0 (by decide) t_185 (fun _ h9 => h9) rfl dX5_film_83 ?_
                      refine lv_iload_n hx hb dX5_film_86 rfl (lv_at hl 1 rfl) ?_
                      refine lv_iload hx hb dX5_film_87 (lv_at hl 5 rfl) ?_
                      obtain ⟨r43, k44, h100⟩ := ob1 h99
                      clear h99
                      refine g_vi F (cX4_worthOfHalf_ok l d cy nw0 nw1 nw2 ng0 ng1 ng2 ng3 nw_people nw_fewest nw_kinds nw_loves ng_many ng_sets ng_chalk ng_wet ng_harvest ng_draw i1 v34 r43 k44) cal_X4_worthOfHalf t_282 rfl ⟨by decide, by decide⟩ hw (w' := List.flatten [wX cy xx0 nw0 ps0 kp0 kq0 tr0 tp0 hs0 xx_isKept, wT cy nw0 nw1 nw2 ng0 nw_people nw_fewest nw_kinds nw_loves, wG cy ng0 ng1 ng2 ng3 ng_many ng_sets ng_chalk ng_wet ng_harvest ng_draw, wH cy hs0 hs_r0 hs_r1 g35 hs_lane hs_size]) (SCut.cut (SCut.skip (SCut.take SCut.rf (SCut.take SCut.rf (SCut.skip SCut.none))))) 0 4 rfl rfl hl.1 (Nat.le_of_ble_eq_true rfl) rfl dX5_film_89 (fun H locs hw => ?_)
                      refine lv_i2l hx hb dX5_film_92 rfl ?_
                      obtain ⟨f45, k46, h101⟩ := ob1 h100
                      clear h100
                      refine g_vv F (cX2_put_ok l d cy (hs_r0 0) (hs_r1 0) (g35 0) (hs_lane 0) (hs_size 0) (i5 + v34) (Int32.toInt64 r43) f45 k46) cal_X2_put t_698 rfl ⟨by decide, by decide⟩ hw (w' := List.flatten [wX cy xx0 nw0 ps0 kp0 kq0 tr0 tp0 hs0 xx_isKept, wT cy nw0 nw1 nw2 ng0 nw_people nw_fewest nw_kinds nw_loves, wG cy ng0 ng1 ng2 ng3 ng_many ng_sets ng_chalk ng_wet ng_harvest ng_draw, wH cy hs0 hs_r0 hs_r1 (va_up g35 0 f45) hs_lane hs_size]) (SCut.cut (SCut.one (SCut.skip (SCut.skip (SCut.skip (SCut.take cutH0 SCut.none)))))) 0 2 rfl rfl hl.1 (Nat.le_of_ble_eq_true rfl) rfl dX5_film_93 (fun H locs hw => ?_)
                      refine lv_iinc (v := (v34 + 1)) (lv' := [(7, .int (v34 + 1)), (0, .ref xx0), (1, .int i1), (2, .int i2), (3, .int i3), (5, .int i5)]) hx hb dX5_film_96 hl (k := 5) rfl rfl (by decide) rfl (fun ls hl => ?_)
                      refine lv_goto (tgt := 65) hx hb dX5_film_99 (by decide) ?_
                      exact ih37 (v34 + 1) (va_up g35 0 f45) _ _ _ hw (lv_sub hl [1, 2, 3, 4, 5, 0] rfl) h101
                    · refine g_aald F 4 rfl hw 8 rfl k42 dX5_film_76 ?_
                      refine lv_iload hx hb dX5_film_77 (lv_at hl 4 rfl) ?_
                      refine lv_iload hx hb dX5_film_79 (lv_at hl 5 rfl) ?_
                      refine lv_iadd hx hb dX5_film_81 ?_
                      refine lv_aload_n hx hb dX5_film_82 rfl (lv_at hl 0 rfl) ?_
                      refine g_get F inG5 hw 0 rfl rfl 0 (by decide) t_185 (fun _ h9 => h9) rfl dX5_film_83 ?_
                      refine lv_iload_n hx hb dX5_film_86 rfl (lv_at hl 1 rfl) ?_
                      refine lv_iload hx hb dX5_film_87 (lv_at hl 5 rfl) ?_
                      obtain ⟨r43, k44, h102⟩ := ob1 h99
                      clear h99
                      refine g_vi F (cX4_worthOfHalf_ok l d cy nw0 nw1 nw2 ng0 ng1 ng2 ng3 nw_people nw_fewest nw_kinds nw_loves ng_many ng_sets ng_chalk ng_wet ng_harvest ng_draw i1 v34 r43 k44) cal_X4_worthOfHalf t_282 rfl ⟨by decide, by decide⟩ hw (w' := List.flatten [wX cy xx0 nw0 ps0 kp0 kq0 tr0 tp0 hs0 xx_isKept, wT cy nw0 nw1 nw2 ng0 nw_people nw_fewest nw_kinds nw_loves, wG cy ng0 ng1 ng2 ng3 ng_many ng_sets ng_chalk ng_wet ng_harvest ng_draw, wH cy hs0 hs_r0 hs_r1 g35 hs_lane hs_size]) (SCut.cut (SCut.skip (SCut.take SCut.rf (SCut.take SCut.rf (SCut.skip SCut.none))))) 0 4 rfl rfl hl.1 (Nat.le_of_ble_eq_true rfl) rfl dX5_film_89 (fun H locs hw => ?_)
                      refine lv_i2l hx hb dX5_film_92 rfl ?_
                      obtain ⟨f45, k46, h103⟩ := ob1 h102
                      clear h102
                      refine g_vv F (cX2_put_ok l d cy (hs_r0 1) (hs_r1 1) (g35 1) (hs_lane 1) (hs_size 1) (i5 + v34) (Int32.toInt64 r43) f45 k46) cal_X2_put t_698 rfl ⟨by decide, by decide⟩ hw (w' := List.flatten [wX cy xx0 nw0 ps0 kp0 kq0 tr0 tp0 hs0 xx_isKept, wT cy nw0 nw1 nw2 ng0 nw_people nw_fewest nw_kinds nw_loves, wG cy ng0 ng1 ng2 ng3 ng_many ng_sets ng_chalk ng_wet ng_harvest ng_draw, wH cy hs0 hs_r0 hs_r1 (va_up g35 1 f45) hs_lane hs_size]) (SCut.cut (SCut.one (SCut.skip (SCut.skip (SCut.skip (SCut.take cutH1 SCut.none)))))) 0 2 rfl rfl hl.1 (Nat.le_of_ble_eq_true rfl) rfl dX5_film_93 (fun H locs hw => ?_)
                      refine lv_iinc (v := (v34 + 1)) (lv' := [(7, .int (v34 + 1)), (0, .ref xx0), (1, .int i1), (2, .int i2), (3, .int i3), (5, .int i5)]) hx hb dX5_film_96 hl (k := 5) rfl rfl (by decide) rfl (fun ls hl => ?_)
                      refine lv_goto (tgt := 65) hx hb dX5_film_99 (by decide) ?_
                      exact ih37 (v34 + 1) (va_up g35 1 f45) _ _ _ hw (lv_sub hl [1, 2, 3, 4, 5, 0] rfl) h103
                    · refine g_aald F 4 rfl hw 8 rfl k42 dX5_film_76 ?_
                      refine lv_iload hx hb dX5_film_77 (lv_at hl 4 rfl) ?_
                      refine lv_iload hx hb dX5_film_79 (lv_at hl 5 rfl) ?_
                      refine lv_iadd hx hb dX5_film_81 ?_
                      refine lv_aload_n hx hb dX5_film_82 rfl (lv_at hl 0 rfl) ?_
                      refine g_get F inG5 hw 0 rfl rfl 0 (by decide) t_185 (fun _ h9 => h9) rfl dX5_film_83 ?_
                      refine lv_iload_n hx hb dX5_film_86 rfl (lv_at hl 1 rfl) ?_
                      refine lv_iload hx hb dX5_film_87 (lv_at hl 5 rfl) ?_
                      obtain ⟨r43, k44, h104⟩ := ob1 h99
                      clear h99
                      refine g_vi F (cX4_worthOfHalf_ok l d cy nw0 nw1 nw2 ng0 ng1 ng2 ng3 nw_people nw_fewest nw_kinds nw_loves ng_many ng_sets ng_chalk ng_wet ng_harvest ng_draw i1 v34 r43 k44) cal_X4_worthOfHalf t_282 rfl ⟨by decide, by decide⟩ hw (w' := List.flatten [wX cy xx0 nw0 ps0 kp0 kq0 tr0 tp0 hs0 xx_isKept, wT cy nw0 nw1 nw2 ng0 nw_people nw_fewest nw_kinds nw_loves, wG cy ng0 ng1 ng2 ng3 ng_many ng_sets ng_chalk ng_wet ng_harvest ng_draw, wH cy hs0 hs_r0 hs_r1 g35 hs_lane hs_size]) (SCut.cut (SCut.skip (SCut.take SCut.rf (SCut.take SCut.rf (SCut.skip SCut.none))))) 0 4 rfl rfl hl.1 (Nat.le_of_ble_eq_true rfl) rfl dX5_film_89 (fun H locs hw => ?_)
                      refine lv_i2l hx hb dX5_film_92 rfl ?_
                      obtain ⟨f45, k46, h105⟩ := ob1 h104
                      clear h104
                      refine g_vv F (cX2_put_ok l d cy (hs_r0 2) (hs_r1 2) (g35 2) (hs_lane 2) (hs_size 2) (i5 + v34) (Int32.toInt64 r43) f45 k46) cal_X2_put t_698 rfl ⟨by decide, by decide⟩ hw (w' := List.flatten [wX cy xx0 nw0 ps0 kp0 kq0 tr0 tp0 hs0 xx_isKept, wT cy nw0 nw1 nw2 ng0 nw_people nw_fewest nw_kinds nw_loves, wG cy ng0 ng1 ng2 ng3 ng_many ng_sets ng_chalk ng_wet ng_harvest ng_draw, wH cy hs0 hs_r0 hs_r1 (va_up g35 2 f45) hs_lane hs_size]) (SCut.cut (SCut.one (SCut.skip (SCut.skip (SCut.skip (SCut.take cutH2 SCut.none)))))) 0 2 rfl rfl hl.1 (Nat.le_of_ble_eq_true rfl) rfl dX5_film_93 (fun H locs hw => ?_)
                      refine lv_iinc (v := (v34 + 1)) (lv' := [(7, .int (v34 + 1)), (0, .ref xx0), (1, .int i1), (2, .int i2), (3, .int i3), (5, .int i5)]) hx hb dX5_film_96 hl (k := 5) rfl rfl (by decide) rfl (fun ls hl => ?_)
                      refine lv_goto (tgt := 65) hx hb dX5_film_99 (by decide) ?_
                      exact ih37 (v34 + 1) (va_up g35 2 f45) _ _ _ hw (lv_sub hl [1, 2, 3, 4, 5, 0] rfl) h105
                    · refine g_aald F 4 rfl hw 8 rfl k42 dX5_film_76 ?_
                      refine lv_iload hx hb dX5_film_77 (lv_at hl 4 rfl) ?_
                      refine lv_iload hx hb dX5_film_79 (lv_at hl 5 rfl) ?_
                      refine lv_iadd hx hb dX5_film_81 ?_
                      refine lv_aload_n hx hb dX5_film_82 rfl (lv_at hl 0 rfl) ?_
                      refine g_get F inG5 hw 0 rfl rfl 0 (by decide) t_185 (fun _ h9 => h9) rfl dX5_film_83 ?_
                      refine lv_iload_n hx hb dX5_film_86 rfl (lv_at hl 1 rfl) ?_
                      refine lv_iload hx hb dX5_film_87 (lv_at hl 5 rfl) ?_
                      obtain ⟨r43, k44, h106⟩ := ob1 h99
                      clear h99
                      refine g_vi F (cX4_worthOfHalf_ok l d cy nw0 nw1 nw2 ng0 ng1 ng2 ng3 nw_people nw_fewest nw_kinds nw_loves ng_many ng_sets ng_chalk ng_wet ng_harvest ng_draw i1 v34 r43 k44) cal_X4_worthOfHalf t_282 rfl ⟨by decide, by decide⟩ hw (w' := List.flatten [wX cy xx0 nw0 ps0 kp0 kq0 tr0 tp0 hs0 xx_isKept, wT cy nw0 nw1 nw2 ng0 nw_people nw_fewest nw_kinds nw_loves, wG cy ng0 ng1 ng2 ng3 ng_many ng_sets ng_chalk ng_wet ng_harvest ng_draw, wH cy hs0 hs_r0 hs_r1 g35 hs_lane hs_size]) (SCut.cut (SCut.skip (SCut.take SCut.rf (SCut.take SCut.rf (SCut.skip SCut.none))))) 0 4 rfl rfl hl.1 (Nat.le_of_ble_eq_true rfl) rfl dX5_film_89 (fun H locs hw => ?_)
                      refine lv_i2l hx hb dX5_film_92 rfl ?_
                      obtain ⟨f45, k46, h107⟩ := ob1 h106
                      clear h106
                      refine g_vv F (cX2_put_ok l d cy (hs_r0 3) (hs_r1 3) (g35 3) (hs_lane 3) (hs_size 3) (i5 + v34) (Int32.toInt64 r43) f45 k46) cal_X2_put t_698 rfl ⟨by decide, by decide⟩ hw (w' := List.flatten [wX cy xx0 nw0 ps0 kp0 kq0 tr0 tp0 hs0 xx_isKept, wT cy nw0 nw1 nw2 ng0 nw_people nw_fewest nw_kinds nw_loves, wG cy ng0 ng1 ng2 ng3 ng_many ng_sets ng_chalk ng_wet ng_harvest ng_draw, wH cy hs0 hs_r0 hs_r1 (va_up g35 3 f45) hs_lane hs_size]) (SCut.cut (SCut.one (SCut.skip (SCut.skip (SCut.skip (SCut.take cutH3 SCut.none)))))) 0 2 rfl rfl hl.1 (Nat.le_of_ble_eq_true rfl) rfl dX5_film_93 (fun H locs hw => ?_)
                      refine lv_iinc (v := (v34 + 1)) (lv' := [(7, .int (v34 + 1)), (0, .ref xx0), (1, .int i1), (2, .int i2), (3, .int i3), (5, .int i5)]) hx hb dX5_film_96 hl (k := 5) rfl rfl (by decide) rfl (fun ls hl => ?_)
                      refine lv_goto (tgt := 65) hx hb dX5_film_99 (by decide) ?_
                      exact ih37 (v34 + 1) (va_up g35 3 f45) _ _ _ hw (lv_sub hl [1, 2, 3, 4, 5, 0] rfl) h107
              exact loop38 fl 0 hs_items _ _ _ hw (lv_sub hl [2, 3, 4, 5, 7, 0] rfl) h95
            · rw [if_neg c17] at h94
              refine lv_iload hx hb dX5_film_59 (lv_at hl 0 rfl) ?_
              obtain ⟨rfl, rfl⟩ := inj2 h94
              exact hret _ _ _ _ hw dX5_film_61
        · rw [if_pos c12] at h50
          refine lv_iconst (v := (-1)) hx hb dX5_film_36 (by decide) ?_
          obtain ⟨rfl, rfl⟩ := inj2 h50
          exact hret _ _ _ _ hw dX5_film_37
theorem cal_X5_sheet : CalV yX5_sheet cX5_sheet 4 (some .int) RX5 3 := ⟨t_705, t_703, t_704, t_37, by decide +kernel⟩
set_option maxHeartbeats 4000000 in
set_option maxRecDepth 100000 in
theorem cX5_sheet_ok (l : Launch) (d : va_G) (cy : Nat → ClassId) (xx0 hs0 nw0 ps0 kp0 kq0 tr0 tp0 : Nat) (xx_isKept : Int32) (hs_r0 : Nat → Nat) (hs_r1 : Nat → Nat) (hs_items : Nat → Nat → Int64) (hs_lane : Nat → Int32) (hs_size : Nat → Int32) (i1 : Int32) (i2 : Int32) (i3 : Int32) (r : Int32) (hs_items_r : Nat → Nat → Int64) (hs_lane_r : Nat → Int32) (hs_size_r : Nat → Int32) (h0 : fX5_sheet hs_items hs_lane hs_size i1 i2 i3 = some (r, hs_items_r, hs_lane_r, hs_size_r)) : CI l yX5_sheet cX5_sheet 4 (some .int) 2 42 d cy [.ref xx0, .int i1, .int i2, .int i3] (List.flatten [wX cy xx0 nw0 ps0 kp0 kq0 tr0 tp0 hs0 xx_isKept, wH cy hs0 hs_r0 hs_r1 hs_items hs_lane hs_size]) (List.flatten [wX cy xx0 nw0 ps0 kp0 kq0 tr0 tp0 hs0 xx_isKept, wH cy hs0 hs_r0 hs_r1 hs_items_r hs_lane_r hs_size_r]) r := by
  refine CI.of (by decide) (Nat.le_of_ble_eq_true rfl) ?_
  intro p e s m args below meth c A ls Q F hret hw hl
  have hx := F.1
  have hb := F.2.1
  have hl : lv_has ls 4 [(0, .ref xx0), (1, .int i1), (2, .int i2), (3, .int i3)] := hl
  rw [fX5_sheet] at h0
  refine lv_iload_n hx hb dX5_sheet_0 rfl (lv_at hl 1 rfl) ?_
  obtain ⟨r1, k2, h15⟩ := ob1 h0
  clear h0
  refine g_si F (cX5_isSheet_ok l d cy i1 r1 k2) cal_X5_isSheet t_666 rfl ⟨by decide, by decide⟩ hw (w' := List.flatten [wX cy xx0 nw0 ps0 kp0 kq0 tr0 tp0 hs0 xx_isKept, wH cy hs0 hs_r0 hs_r1 hs_items hs_lane hs_size]) Cut.nil hl.1 (Nat.le_of_ble_eq_true rfl) rfl dX5_sheet_1 (fun H locs hw => ?_)
  refine lv_if_eq (tgt := 20) hx hb dX5_sheet_4 (by decide) (fun c3 => ?_) (fun c3 => ?_)
  · rw [if_pos c3] at h15
    refine lv_iconst (v := (-1)) hx hb dX5_sheet_20 (by decide) ?_
    obtain ⟨rfl, rfl, rfl, rfl⟩ := inj4 h15
    exact hret _ _ _ _ hw dX5_sheet_21
  · rw [if_neg c3] at h15
    refine lv_iload_n hx hb dX5_sheet_7 rfl (lv_at hl 2 rfl) ?_
    obtain ⟨r4, k5, h16⟩ := ob1 h15
    clear h15
    refine g_si F (cX5_isLane_ok l d cy i2 r4 k5) cal_X5_isLane t_669 rfl ⟨by decide, by decide⟩ hw (w' := List.flatten [wX cy xx0 nw0 ps0 kp0 kq0 tr0 tp0 hs0 xx_isKept, wH cy hs0 hs_r0 hs_r1 hs_items hs_lane hs_size]) Cut.nil hl.1 (Nat.le_of_ble_eq_true rfl) rfl dX5_sheet_8 (fun H locs hw => ?_)
    refine lv_if_eq (tgt := 20) hx hb dX5_sheet_11 (by decide) (fun c6 => ?_) (fun c6 => ?_)
    · rw [if_pos c6] at h16
      refine lv_iconst (v := (-1)) hx hb dX5_sheet_20 (by decide) ?_
      obtain ⟨rfl, rfl, rfl, rfl⟩ := inj4 h16
      exact hret _ _ _ _ hw dX5_sheet_21
    · rw [if_neg c6] at h16
      refine lv_iload_n hx hb dX5_sheet_14 rfl (lv_at hl 3 rfl) ?_
      refine lv_bipush (v := 24) hx hb dX5_sheet_15 (by decide) ?_
      refine lv_icmp_le (tgt := 22) hx hb dX5_sheet_17 (by decide) (fun c7 => ?_) (fun c7 => ?_)
      · rw [if_pos c7] at h16
        refine lv_iload_n hx hb dX5_sheet_22 rfl (lv_at hl 3 rfl) ?_
        refine lv_if_ge (tgt := 29) hx hb dX5_sheet_23 (by decide) (fun c8 => ?_) (fun c8 => ?_)
        · rw [if_pos c8] at h16
          refine lv_aload_n hx hb dX5_sheet_29 rfl (lv_at hl 0 rfl) ?_
          refine g_get F inG5 hw 0 rfl rfl 7 (by decide) t_192 (fun _ h9 => h9) rfl dX5_sheet_30 ?_
          refine lv_iload_n hx hb dX5_sheet_33 rfl (lv_at hl 1 rfl) ?_
          obtain ⟨j9, k10, h17⟩ := ob1 h16
          clear h16
          rcases ix4 k10 with rfl | rfl | rfl | rfl
          · refine g_aald F 4 rfl hw 1 rfl k10 dX5_sheet_34 ?_
            refine lv_iload_n hx hb dX5_sheet_35 rfl (lv_at hl 2 rfl) ?_
            refine lv_iload_n hx hb dX5_sheet_36 rfl (lv_at hl 3 rfl) ?_
            obtain ⟨f11, x12, x13, k14, h18⟩ := ob3 h17
            clear h17
            refine g_vv F (cX2_begin_ok l d cy (hs_r0 0) (hs_r1 0) (hs_items 0) (hs_lane 0) (hs_size 0) i2 i3 f11 x12 x13 k14) cal_X2_begin t_706 rfl ⟨by decide, by decide⟩ hw (w' := List.flatten [wX cy xx0 nw0 ps0 kp0 kq0 tr0 tp0 hs0 xx_isKept, wH cy hs0 hs_r0 hs_r1 (va_up hs_items 0 f11) (va_up hs_lane 0 x12) (va_up hs_size 0 x13)]) (SCut.cut (SCut.one (SCut.skip (SCut.take cutH0 SCut.none)))) 0 2 rfl rfl hl.1 (Nat.le_of_ble_eq_true rfl) rfl dX5_sheet_37 (fun H locs hw => ?_)
            refine lv_iload_n hx hb dX5_sheet_40 rfl (lv_at hl 3 rfl) ?_
            obtain ⟨rfl, rfl, rfl, rfl⟩ := inj4 h18
            exact hret _ _ _ _ hw dX5_sheet_41
          · refine g_aald F 4 rfl hw 1 rfl k10 dX5_sheet_34 ?_
            refine lv_iload_n hx hb dX5_sheet_35 rfl (lv_at hl 2 rfl) ?_
            refine lv_iload_n hx hb dX5_sheet_36 rfl (lv_at hl 3 rfl) ?_
            obtain ⟨f11, x12, x13, k14, h19⟩ := ob3 h17
            clear h17
            refine g_vv F (cX2_begin_ok l d cy (hs_r0 1) (hs_r1 1) (hs_items 1) (hs_lane 1) (hs_size 1) i2 i3 f11 x12 x13 k14) cal_X2_begin t_706 rfl ⟨by decide, by decide⟩ hw (w' := List.flatten [wX cy xx0 nw0 ps0 kp0 kq0 tr0 tp0 hs0 xx_isKept, wH cy hs0 hs_r0 hs_r1 (va_up hs_items 1 f11) (va_up hs_lane 1 x12) (va_up hs_size 1 x13)]) (SCut.cut (SCut.one (SCut.skip (SCut.take cutH1 SCut.none)))) 0 2 rfl rfl hl.1 (Nat.le_of_ble_eq_true rfl) rfl dX5_sheet_37 (fun H locs hw => ?_)
            refine lv_iload_n hx hb dX5_sheet_40 rfl (lv_at hl 3 rfl) ?_
            obtain ⟨rfl, rfl, rfl, rfl⟩ := inj4 h19
            exact hret _ _ _ _ hw dX5_sheet_41
          · refine g_aald F 4 rfl hw 1 rfl k10 dX5_sheet_34 ?_
            refine lv_iload_n hx hb dX5_sheet_35 rfl (lv_at hl 2 rfl) ?_
            refine lv_iload_n hx hb dX5_sheet_36 rfl (lv_at hl 3 rfl) ?_
            obtain ⟨f11, x12, x13, k14, h20⟩ := ob3 h17
            clear h17
            refine g_vv F (cX2_begin_ok l d cy (hs_r0 2) (hs_r1 2) (hs_items 2) (hs_lane 2) (hs_size 2) i2 i3 f11 x12 x13 k14) cal_X2_begin t_706 rfl ⟨by decide, by decide⟩ hw (w' := List.flatten [wX cy xx0 nw0 ps0 kp0 kq0 tr0 tp0 hs0 xx_isKept, wH cy hs0 hs_r0 hs_r1 (va_up hs_items 2 f11) (va_up hs_lane 2 x12) (va_up hs_size 2 x13)]) (SCut.cut (SCut.one (SCut.skip (SCut.take cutH2 SCut.none)))) 0 2 rfl rfl hl.1 (Nat.le_of_ble_eq_true rfl) rfl dX5_sheet_37 (fun H locs hw => ?_)
            refine lv_iload_n hx hb dX5_sheet_40 rfl (lv_at hl 3 rfl) ?_
            obtain ⟨rfl, rfl, rfl, rfl⟩ := inj4 h20
            exact hret _ _ _ _ hw dX5_sheet_41
          · refine g_aald F 4 rfl hw 1 rfl k10 dX5_sheet_34 ?_
            refine lv_iload_n hx hb dX5_sheet_35 rfl (lv_at hl 2 rfl) ?_
            refine lv_iload_n hx hb dX5_sheet_36 rfl (lv_at hl 3 rfl) ?_
            obtain ⟨f11, x12, x13, k14, h21⟩ := ob3 h17
            clear h17
            refine g_vv F (cX2_begin_ok l d cy (hs_r0 3) (hs_r1 3) (hs_items 3) (hs_lane 3) (hs_size 3) i2 i3 f11 x12 x13 k14) cal_X2_begin t_706 rfl ⟨by decide, by decide⟩ hw (w' := List.flatten [wX cy xx0 nw0 ps0 kp0 kq0 tr0 tp0 hs0 xx_isKept, wH cy hs0 hs_r0 hs_r1 (va_up hs_items 3 f11) (va_up hs_lane 3 x12) (va_up hs_size 3 x13)]) (SCut.cut (SCut.one (SCut.skip (SCut.take cutH3 SCut.none)))) 0 2 rfl rfl hl.1 (Nat.le_of_ble_eq_true rfl) rfl dX5_sheet_37 (fun H locs hw => ?_)
            refine lv_iload_n hx hb dX5_sheet_40 rfl (lv_at hl 3 rfl) ?_
            obtain ⟨rfl, rfl, rfl, rfl⟩ := inj4 h21
            exact hret _ _ _ _ hw dX5_sheet_41
        · rw [if_neg c8] at h16
          refine lv_bipush (v := (-14)) hx hb dX5_sheet_26 (by decide) ?_
          obtain ⟨rfl, rfl, rfl, rfl⟩ := inj4 h16
          exact hret _ _ _ _ hw dX5_sheet_28
      · rw [if_neg c7] at h16
        refine lv_iconst (v := (-1)) hx hb dX5_sheet_20 (by decide) ?_
        obtain ⟨rfl, rfl, rfl, rfl⟩ := inj4 h16
        exact hret _ _ _ _ hw dX5_sheet_21
theorem cal_X5_drop : CalV yX5_drop cX5_drop 3 (some .int) RX5 1 := ⟨t_713, t_711, t_712, t_37, by decide +kernel⟩
set_option maxHeartbeats 4000000 in
set_option maxRecDepth 100000 in
theorem cX5_drop_ok (l : Launch) (d : va_G) (cy : Nat → ClassId) (xx0 hs0 nw0 ps0 kp0 kq0 tr0 tp0 : Nat) (xx_isKept : Int32) (hs_r0 : Nat → Nat) (hs_r1 : Nat → Nat) (hs_items : Nat → Nat → Int64) (hs_lane : Nat → Int32) (hs_size : Nat → Int32) (i1 : Int32) (r : Int32) (hs_items_r : Nat → Nat → Int64) (hs_lane_r : Nat → Int32) (hs_size_r : Nat → Int32) (h0 : fX5_drop hs_items hs_lane hs_size i1 = some (r, hs_items_r, hs_lane_r, hs_size_r)) : CI l yX5_drop cX5_drop 3 (some .int) 2 42 d cy [.ref xx0, .int i1] (List.flatten [wX cy xx0 nw0 ps0 kp0 kq0 tr0 tp0 hs0 xx_isKept, wH cy hs0 hs_r0 hs_r1 hs_items hs_lane hs_size]) (List.flatten [wX cy xx0 nw0 ps0 kp0 kq0 tr0 tp0 hs0 xx_isKept, wH cy hs0 hs_r0 hs_r1 hs_items_r hs_lane_r hs_size_r]) r := by
  refine CI.of (by decide) (Nat.le_of_ble_eq_true rfl) ?_
  intro p e s m args below meth c A ls Q F hret hw hl
  have hx := F.1
  have hb := F.2.1
  have hl : lv_has ls 3 [(0, .ref xx0), (1, .int i1)] := hl
  rw [fX5_drop] at h0
  refine lv_iload_n hx hb dX5_drop_0 rfl (lv_at hl 1 rfl) ?_
  obtain ⟨r1, k2, h11⟩ := ob1 h0
  clear h0
  refine g_si F (cX5_isSheet_ok l d cy i1 r1 k2) cal_X5_isSheet t_666 rfl ⟨by decide, by decide⟩ hw (w' := List.flatten [wX cy xx0 nw0 ps0 kp0 kq0 tr0 tp0 hs0 xx_isKept, wH cy hs0 hs_r0 hs_r1 hs_items hs_lane hs_size]) Cut.nil hl.1 (Nat.le_of_ble_eq_true rfl) rfl dX5_drop_1 (fun H locs hw => ?_)
  refine lv_if_ne (tgt := 9) hx hb dX5_drop_4 (by decide) (fun c3 => ?_) (fun c3 => ?_)
  · rw [if_neg c3] at h11
    refine lv_aload_n hx hb dX5_drop_9 rfl (lv_at hl 0 rfl) ?_
    refine g_get F inG5 hw 0 rfl rfl 7 (by decide) t_192 (fun _ h9 => h9) rfl dX5_drop_10 ?_
    refine lv_iload_n hx hb dX5_drop_13 rfl (lv_at hl 1 rfl) ?_
    obtain ⟨j4, k5, h12⟩ := ob1 h11
    clear h11
    rcases ix4 k5 with rfl | rfl | rfl | rfl
    · refine g_aald F 4 rfl hw 1 rfl k5 dX5_drop_14 ?_
      refine g_get F inG2 hw 2 rfl rfl 1 (by decide) t_174 (fun _ h9 => h9) rfl dX5_drop_15 ?_
      refine lv_iconst (v := (-1)) hx hb dX5_drop_18 (by decide) ?_
      refine lv_icmp_ne (tgt := 25) hx hb dX5_drop_19 (by decide) (fun c6 => ?_) (fun c6 => ?_)
      · rw [if_neg c6] at h12
        refine lv_aload_n hx hb dX5_drop_25 rfl (lv_at hl 0 rfl) ?_
        refine g_get F inG5 hw 0 rfl rfl 7 (by decide) t_192 (fun _ h9 => h9) rfl dX5_drop_26 ?_
        refine lv_iload_n hx hb dX5_drop_29 rfl (lv_at hl 1 rfl) ?_
        refine g_aald F 4 rfl hw 1 rfl k5 dX5_drop_30 ?_
        refine g_get F inG2 hw 2 rfl rfl 2 (by decide) t_176 (fun _ h9 => h9) rfl dX5_drop_31 ?_
        refine lv_istore_n (lv' := [(2, .int (hs_size 0)), (0, .ref xx0), (1, .int i1)]) hx hb dX5_drop_34 rfl hl (by decide) rfl (fun ls hl => ?_)
        refine lv_aload_n hx hb dX5_drop_35 rfl (lv_at hl 1 rfl) ?_
        refine g_get F inG5 hw 0 rfl rfl 7 (by decide) t_192 (fun _ h9 => h9) rfl dX5_drop_36 ?_
        refine lv_iload_n hx hb dX5_drop_39 rfl (lv_at hl 2 rfl) ?_
        refine g_aald F 4 rfl hw 1 rfl k5 dX5_drop_40 ?_
        refine lv_iconst (v := (-1)) hx hb dX5_drop_41 (by decide) ?_
        refine lv_iconst (v := 0) hx hb dX5_drop_42 (by decide) ?_
        obtain ⟨f7, x8, x9, k10, h13⟩ := ob3 h12
        clear h12
        refine g_vv F (cX2_begin_ok l d cy (hs_r0 0) (hs_r1 0) (hs_items 0) (hs_lane 0) (hs_size 0) (-1) 0 f7 x8 x9 k10) cal_X2_begin t_706 rfl ⟨by decide, by decide⟩ hw (w' := List.flatten [wX cy xx0 nw0 ps0 kp0 kq0 tr0 tp0 hs0 xx_isKept, wH cy hs0 hs_r0 hs_r1 (va_up hs_items 0 f7) (va_up hs_lane 0 x8) (va_up hs_size 0 x9)]) (SCut.cut (SCut.one (SCut.skip (SCut.take cutH0 SCut.none)))) 0 2 rfl rfl hl.1 (Nat.le_of_ble_eq_true rfl) rfl dX5_drop_43 (fun H locs hw => ?_)
        refine lv_iload_n hx hb dX5_drop_46 rfl (lv_at hl 0 rfl) ?_
        obtain ⟨rfl, rfl, rfl, rfl⟩ := inj4 h13
        exact hret _ _ _ _ hw dX5_drop_47
      · rw [if_pos c6] at h12
        refine lv_bipush (v := (-11)) hx hb dX5_drop_22 (by decide) ?_
        obtain ⟨rfl, rfl, rfl, rfl⟩ := inj4 h12
        exact hret _ _ _ _ hw dX5_drop_24
    · refine g_aald F 4 rfl hw 1 rfl k5 dX5_drop_14 ?_
      refine g_get F inG2 hw 4 rfl rfl 1 (by decide) t_174 (fun _ h9 => h9) rfl dX5_drop_15 ?_
      refine lv_iconst (v := (-1)) hx hb dX5_drop_18 (by decide) ?_
      refine lv_icmp_ne (tgt := 25) hx hb dX5_drop_19 (by decide) (fun c6 => ?_) (fun c6 => ?_)
      · rw [if_neg c6] at h12
        refine lv_aload_n hx hb dX5_drop_25 rfl (lv_at hl 0 rfl) ?_
        refine g_get F inG5 hw 0 rfl rfl 7 (by decide) t_192 (fun _ h9 => h9) rfl dX5_drop_26 ?_
        refine lv_iload_n hx hb dX5_drop_29 rfl (lv_at hl 1 rfl) ?_
        refine g_aald F 4 rfl hw 1 rfl k5 dX5_drop_30 ?_
        refine g_get F inG2 hw 4 rfl rfl 2 (by decide) t_176 (fun _ h9 => h9) rfl dX5_drop_31 ?_
        refine lv_istore_n (lv' := [(2, .int (hs_size 1)), (0, .ref xx0), (1, .int i1)]) hx hb dX5_drop_34 rfl hl (by decide) rfl (fun ls hl => ?_)
        refine lv_aload_n hx hb dX5_drop_35 rfl (lv_at hl 1 rfl) ?_
        refine g_get F inG5 hw 0 rfl rfl 7 (by decide) t_192 (fun _ h9 => h9) rfl dX5_drop_36 ?_
        refine lv_iload_n hx hb dX5_drop_39 rfl (lv_at hl 2 rfl) ?_
        refine g_aald F 4 rfl hw 1 rfl k5 dX5_drop_40 ?_
        refine lv_iconst (v := (-1)) hx hb dX5_drop_41 (by decide) ?_
        refine lv_iconst (v := 0) hx hb dX5_drop_42 (by decide) ?_
        obtain ⟨f7, x8, x9, k10, h14⟩ := ob3 h12
        clear h12
        refine g_vv F (cX2_begin_ok l d cy (hs_r0 1) (hs_r1 1) (hs_items 1) (hs_lane 1) (hs_size 1) (-1) 0 f7 x8 x9 k10) cal_X2_begin t_706 rfl ⟨by decide, by decide⟩ hw (w' := List.flatten [wX cy xx0 nw0 ps0 kp0 kq0 tr0 tp0 hs0 xx_isKept, wH cy hs0 hs_r0 hs_r1 (va_up hs_items 1 f7) (va_up hs_lane 1 x8) (va_up hs_size 1 x9)]) (SCut.cut (SCut.one (SCut.skip (SCut.take cutH1 SCut.none)))) 0 2 rfl rfl hl.1 (Nat.le_of_ble_eq_true rfl) rfl dX5_drop_43 (fun H locs hw => ?_)
        refine lv_iload_n hx hb dX5_drop_46 rfl (lv_at hl 0 rfl) ?_
        obtain ⟨rfl, rfl, rfl, rfl⟩ := inj4 h14
        exact hret _ _ _ _ hw dX5_drop_47
      · rw [if_pos c6] at h12
        refine lv_bipush (v := (-11)) hx hb dX5_drop_22 (by decide) ?_
        obtain ⟨rfl, rfl, rfl, rfl⟩ := inj4 h12
        exact hret _ _ _ _ hw dX5_drop_24
    · refine g_aald F 4 rfl hw 1 rfl k5 dX5_drop_14 ?_
      refine g_get F inG2 hw 6 rfl rfl 1 (by decide) t_174 (fun _ h9 => h9) rfl dX5_drop_15 ?_
      refine lv_iconst (v := (-1)) hx hb dX5_drop_18 (by decide) ?_
      refine lv_icmp_ne (tgt := 25) hx hb dX5_drop_19 (by decide) (fun c6 => ?_) (fun c6 => ?_)
      · rw [if_neg c6] at h12
        refine lv_aload_n hx hb dX5_drop_25 rfl (lv_at hl 0 rfl) ?_
        refine g_get F inG5 hw 0 rfl rfl 7 (by decide) t_192 (fun _ h9 => h9) rfl dX5_drop_26 ?_
        refine lv_iload_n hx hb dX5_drop_29 rfl (lv_at hl 1 rfl) ?_
        refine g_aald F 4 rfl hw 1 rfl k5 dX5_drop_30 ?_
        refine g_get F inG2 hw 6 rfl rfl 2 (by decide) t_176 (fun _ h9 => h9) rfl dX5_drop_31 ?_
        refine lv_istore_n (lv' := [(2, .int (hs_size 2)), (0, .ref xx0), (1, .int i1)]) hx hb dX5_drop_34 rfl hl (by decide) rfl (fun ls hl => ?_)
        refine lv_aload_n hx hb dX5_drop_35 rfl (lv_at hl 1 rfl) ?_
        refine g_get F inG5 hw 0 rfl rfl 7 (by decide) t_192 (fun _ h9 => h9) rfl dX5_drop_36 ?_
        refine lv_iload_n hx hb dX5_drop_39 rfl (lv_at hl 2 rfl) ?_
        refine g_aald F 4 rfl hw 1 rfl k5 dX5_drop_40 ?_
        refine lv_iconst (v := (-1)) hx hb dX5_drop_41 (by decide) ?_
        refine lv_iconst (v := 0) hx hb dX5_drop_42 (by decide) ?_
        obtain ⟨f7, x8, x9, k10, h15⟩ := ob3 h12
        clear h12
        refine g_vv F (cX2_begin_ok l d cy (hs_r0 2) (hs_r1 2) (hs_items 2) (hs_lane 2) (hs_size 2) (-1) 0 f7 x8 x9 k10) cal_X2_begin t_706 rfl ⟨by decide, by decide⟩ hw (w' := List.flatten [wX cy xx0 nw0 ps0 kp0 kq0 tr0 tp0 hs0 xx_isKept, wH cy hs0 hs_r0 hs_r1 (va_up hs_items 2 f7) (va_up hs_lane 2 x8) (va_up hs_size 2 x9)]) (SCut.cut (SCut.one (SCut.skip (SCut.take cutH2 SCut.none)))) 0 2 rfl rfl hl.1 (Nat.le_of_ble_eq_true rfl) rfl dX5_drop_43 (fun H locs hw => ?_)
        refine lv_iload_n hx hb dX5_drop_46 rfl (lv_at hl 0 rfl) ?_
        obtain ⟨rfl, rfl, rfl, rfl⟩ := inj4 h15
        exact hret _ _ _ _ hw dX5_drop_47
      · rw [if_pos c6] at h12
        refine lv_bipush (v := (-11)) hx hb dX5_drop_22 (by decide) ?_
        obtain ⟨rfl, rfl, rfl, rfl⟩ := inj4 h12
        exact hret _ _ _ _ hw dX5_drop_24
    · refine g_aald F 4 rfl hw 1 rfl k5 dX5_drop_14 ?_
      refine g_get F inG2 hw 8 rfl rfl 1 (by decide) t_174 (fun _ h9 => h9) rfl dX5_drop_15 ?_
      refine lv_iconst (v := (-1)) hx hb dX5_drop_18 (by decide) ?_
      refine lv_icmp_ne (tgt := 25) hx hb dX5_drop_19 (by decide) (fun c6 => ?_) (fun c6 => ?_)
      · rw [if_neg c6] at h12
        refine lv_aload_n hx hb dX5_drop_25 rfl (lv_at hl 0 rfl) ?_
        refine g_get F inG5 hw 0 rfl rfl 7 (by decide) t_192 (fun _ h9 => h9) rfl dX5_drop_26 ?_
        refine lv_iload_n hx hb dX5_drop_29 rfl (lv_at hl 1 rfl) ?_
        refine g_aald F 4 rfl hw 1 rfl k5 dX5_drop_30 ?_
        refine g_get F inG2 hw 8 rfl rfl 2 (by decide) t_176 (fun _ h9 => h9) rfl dX5_drop_31 ?_
        refine lv_istore_n (lv' := [(2, .int (hs_size 3)), (0, .ref xx0), (1, .int i1)]) hx hb dX5_drop_34 rfl hl (by decide) rfl (fun ls hl => ?_)
        refine lv_aload_n hx hb dX5_drop_35 rfl (lv_at hl 1 rfl) ?_
        refine g_get F inG5 hw 0 rfl rfl 7 (by decide) t_192 (fun _ h9 => h9) rfl dX5_drop_36 ?_
        refine lv_iload_n hx hb dX5_drop_39 rfl (lv_at hl 2 rfl) ?_
        refine g_aald F 4 rfl hw 1 rfl k5 dX5_drop_40 ?_
        refine lv_iconst (v := (-1)) hx hb dX5_drop_41 (by decide) ?_
        refine lv_iconst (v := 0) hx hb dX5_drop_42 (by decide) ?_
        obtain ⟨f7, x8, x9, k10, h16⟩ := ob3 h12
        clear h12
        refine g_vv F (cX2_begin_ok l d cy (hs_r0 3) (hs_r1 3) (hs_items 3) (hs_lane 3) (hs_size 3) (-1) 0 f7 x8 x9 k10) cal_X2_begin t_706 rfl ⟨by decide, by decide⟩ hw (w' := List.flatten [wX cy xx0 nw0 ps0 kp0 kq0 tr0 tp0 hs0 xx_isKept, wH cy hs0 hs_r0 hs_r1 (va_up hs_items 3 f7) (va_up hs_lane 3 x8) (va_up hs_size 3 x9)]) (SCut.cut (SCut.one (SCut.skip (SCut.take cutH3 SCut.none)))) 0 2 rfl rfl hl.1 (Nat.le_of_ble_eq_true rfl) rfl dX5_drop_43 (fun H locs hw => ?_)
        refine lv_iload_n hx hb dX5_drop_46 rfl (lv_at hl 0 rfl) ?_
        obtain ⟨rfl, rfl, rfl, rfl⟩ := inj4 h16
        exact hret _ _ _ _ hw dX5_drop_47
      · rw [if_pos c6] at h12
        refine lv_bipush (v := (-11)) hx hb dX5_drop_22 (by decide) ?_
        obtain ⟨rfl, rfl, rfl, rfl⟩ := inj4 h12
        exact hret _ _ _ _ hw dX5_drop_24
  · rw [if_pos c3] at h11
    refine lv_iconst (v := (-1)) hx hb dX5_drop_7 (by decide) ?_
    obtain ⟨rfl, rfl, rfl, rfl⟩ := inj4 h11
    exact hret _ _ _ _ hw dX5_drop_8
theorem cal_X5_item : CalV yX5_item cX5_item 7 (some .int) RX5 4 := ⟨t_717, t_715, t_716, t_37, by decide +kernel⟩
set_option maxHeartbeats 4000000 in
set_option maxRecDepth 100000 in
theorem cX5_item_ok (l : Launch) (d : va_G) (cy : Nat → ClassId) (xx0 hs0 nw0 ps0 kp0 kq0 tr0 tp0 : Nat) (xx_isKept : Int32) (hs_r0 : Nat → Nat) (hs_r1 : Nat → Nat) (hs_items : Nat → Nat → Int64) (hs_lane : Nat → Int32) (hs_size : Nat → Int32) (i1 : Int32) (i2 : Int32) (i3 : Int32) (i4 : Int64) (r : Int32) (hs_items_r : Nat → Nat → Int64) (h0 : fX5_item hs_items hs_lane hs_size i1 i2 i3 i4 = some (r, hs_items_r)) : CI l yX5_item cX5_item 7 (some .int) 2 45 d cy [.ref xx0, .int i1, .int i2, .int i3, .long i4] (List.flatten [wX cy xx0 nw0 ps0 kp0 kq0 tr0 tp0 hs0 xx_isKept, wH cy hs0 hs_r0 hs_r1 hs_items hs_lane hs_size]) (List.flatten [wX cy xx0 nw0 ps0 kp0 kq0 tr0 tp0 hs0 xx_isKept, wH cy hs0 hs_r0 hs_r1 hs_items_r hs_lane hs_size]) r := by
  refine CI.of (by decide) (Nat.le_of_ble_eq_true rfl) ?_
  intro p e s m args below meth c A ls Q F hret hw hl
  have hx := F.1
  have hb := F.2.1
  have hl : lv_has ls 7 [(0, .ref xx0), (1, .int i1), (2, .int i2), (3, .int i3), (4, .long i4)] := hl
  rw [fX5_item] at h0
  refine lv_iload_n hx hb dX5_item_0 rfl (lv_at hl 1 rfl) ?_
  obtain ⟨r1, k2, h14⟩ := ob1 h0
  clear h0
  refine g_si F (cX5_isSheet_ok l d cy i1 r1 k2) cal_X5_isSheet t_666 rfl ⟨by decide, by decide⟩ hw (w' := List.flatten [wX cy xx0 nw0 ps0 kp0 kq0 tr0 tp0 hs0 xx_isKept, wH cy hs0 hs_r0 hs_r1 hs_items hs_lane hs_size]) Cut.nil hl.1 (Nat.le_of_ble_eq_true rfl) rfl dX5_item_1 (fun H locs hw => ?_)
  refine lv_if_eq (tgt := 14) hx hb dX5_item_4 (by decide) (fun c3 => ?_) (fun c3 => ?_)
  · rw [if_pos c3] at h14
    refine lv_iconst (v := (-1)) hx hb dX5_item_14 (by decide) ?_
    obtain ⟨rfl, rfl⟩ := inj2 h14
    exact hret _ _ _ _ hw dX5_item_15
  · rw [if_neg c3] at h14
    refine lv_iload_n hx hb dX5_item_7 rfl (lv_at hl 2 rfl) ?_
    obtain ⟨r4, k5, h15⟩ := ob1 h14
    clear h14
    refine g_si F (cX5_isLane_ok l d cy i2 r4 k5) cal_X5_isLane t_669 rfl ⟨by decide, by decide⟩ hw (w' := List.flatten [wX cy xx0 nw0 ps0 kp0 kq0 tr0 tp0 hs0 xx_isKept, wH cy hs0 hs_r0 hs_r1 hs_items hs_lane hs_size]) Cut.nil hl.1 (Nat.le_of_ble_eq_true rfl) rfl dX5_item_8 (fun H locs hw => ?_)
    refine lv_if_ne (tgt := 16) hx hb dX5_item_11 (by decide) (fun c6 => ?_) (fun c6 => ?_)
    · rw [if_neg c6] at h15
      refine lv_aload_n hx hb dX5_item_16 rfl (lv_at hl 0 rfl) ?_
      refine g_get F inG5 hw 0 rfl rfl 7 (by decide) t_192 (fun _ h9 => h9) rfl dX5_item_17 ?_
      refine lv_iload_n hx hb dX5_item_20 rfl (lv_at hl 1 rfl) ?_
      obtain ⟨j7, k8, h16⟩ := ob1 h15
      clear h15
      rcases ix4 k8 with rfl | rfl | rfl | rfl
      · refine g_aald F 4 rfl hw 1 rfl k8 dX5_item_21 ?_
        refine lv_iload_n hx hb dX5_item_22 rfl (lv_at hl 2 rfl) ?_
        refine lv_iload_n hx hb dX5_item_23 rfl (lv_at hl 3 rfl) ?_
        refine lv_iconst (v := 1) hx hb dX5_item_24 (by decide) ?_
        obtain ⟨r9, k10, h17⟩ := ob1 h16
        clear h16
        refine g_vi F (cX2_troubleOf_ok l d cy (hs_r0 0) (hs_r1 0) (hs_items 0) (hs_lane 0) (hs_size 0) i2 i3 1 r9 k10) cal_X2_troubleOf t_672 rfl ⟨by decide, by decide⟩ hw (w' := List.flatten [wX cy xx0 nw0 ps0 kp0 kq0 tr0 tp0 hs0 xx_isKept, wH cy hs0 hs_r0 hs_r1 hs_items hs_lane hs_size]) (SCut.cut (SCut.one (SCut.skip (SCut.take cutH0 SCut.none)))) 0 2 rfl rfl hl.1 (Nat.le_of_ble_eq_true rfl) rfl dX5_item_25 (fun H locs hw => ?_)
        refine lv_istore (lv' := [(6, .int r9), (0, .ref xx0), (1, .int i1), (2, .int i2), (3, .int i3), (4, .long i4)]) hx hb dX5_item_28 hl (by decide) rfl (fun ls hl => ?_)
        refine lv_iload hx hb dX5_item_30 (lv_at hl 0 rfl) ?_
        refine lv_if_eq (tgt := 38) hx hb dX5_item_32 (by decide) (fun c11 => ?_) (fun c11 => ?_)
        · rw [if_pos c11] at h17
          refine lv_aload_n hx hb dX5_item_38 rfl (lv_at hl 1 rfl) ?_
          refine g_get F inG5 hw 0 rfl rfl 7 (by decide) t_192 (fun _ h9 => h9) rfl dX5_item_39 ?_
          refine lv_iload_n hx hb dX5_item_42 rfl (lv_at hl 2 rfl) ?_
          refine g_aald F 4 rfl hw 1 rfl k8 dX5_item_43 ?_
          refine lv_iload_n hx hb dX5_item_44 rfl (lv_at hl 4 rfl) ?_
          refine lv_lload hx hb dX5_item_45 (lv_at hl 5 rfl) ?_
          obtain ⟨f12, k13, h18⟩ := ob1 h17
          clear h17
          refine g_vv F (cX2_put_ok l d cy (hs_r0 0) (hs_r1 0) (hs_items 0) (hs_lane 0) (hs_size 0) i3 i4 f12 k13) cal_X2_put t_698 rfl ⟨by decide, by decide⟩ hw (w' := List.flatten [wX cy xx0 nw0 ps0 kp0 kq0 tr0 tp0 hs0 xx_isKept, wH cy hs0 hs_r0 hs_r1 (va_up hs_items 0 f12) hs_lane hs_size]) (SCut.cut (SCut.one (SCut.skip (SCut.take cutH0 SCut.none)))) 0 2 rfl rfl hl.1 (Nat.le_of_ble_eq_true rfl) rfl dX5_item_47 (fun H locs hw => ?_)
          refine lv_iconst (v := 1) hx hb dX5_item_50 (by decide) ?_
          obtain ⟨rfl, rfl⟩ := inj2 h18
          exact hret _ _ _ _ hw dX5_item_51
        · rw [if_neg c11] at h17
          refine lv_iload hx hb dX5_item_35 (lv_at hl 0 rfl) ?_
          obtain ⟨rfl, rfl⟩ := inj2 h17
          exact hret _ _ _ _ hw dX5_item_37
      · refine g_aald F 4 rfl hw 1 rfl k8 dX5_item_21 ?_
        refine lv_iload_n hx hb dX5_item_22 rfl (lv_at hl 2 rfl) ?_
        refine lv_iload_n hx hb dX5_item_23 rfl (lv_at hl 3 rfl) ?_
        refine lv_iconst (v := 1) hx hb dX5_item_24 (by decide) ?_
        obtain ⟨r9, k10, h19⟩ := ob1 h16
        clear h16
        refine g_vi F (cX2_troubleOf_ok l d cy (hs_r0 1) (hs_r1 1) (hs_items 1) (hs_lane 1) (hs_size 1) i2 i3 1 r9 k10) cal_X2_troubleOf t_672 rfl ⟨by decide, by decide⟩ hw (w' := List.flatten [wX cy xx0 nw0 ps0 kp0 kq0 tr0 tp0 hs0 xx_isKept, wH cy hs0 hs_r0 hs_r1 hs_items hs_lane hs_size]) (SCut.cut (SCut.one (SCut.skip (SCut.take cutH1 SCut.none)))) 0 2 rfl rfl hl.1 (Nat.le_of_ble_eq_true rfl) rfl dX5_item_25 (fun H locs hw => ?_)
        refine lv_istore (lv' := [(6, .int r9), (0, .ref xx0), (1, .int i1), (2, .int i2), (3, .int i3), (4, .long i4)]) hx hb dX5_item_28 hl (by decide) rfl (fun ls hl => ?_)
        refine lv_iload hx hb dX5_item_30 (lv_at hl 0 rfl) ?_
        refine lv_if_eq (tgt := 38) hx hb dX5_item_32 (by decide) (fun c11 => ?_) (fun c11 => ?_)
        · rw [if_pos c11] at h19
          refine lv_aload_n hx hb dX5_item_38 rfl (lv_at hl 1 rfl) ?_
          refine g_get F inG5 hw 0 rfl rfl 7 (by decide) t_192 (fun _ h9 => h9) rfl dX5_item_39 ?_
          refine lv_iload_n hx hb dX5_item_42 rfl (lv_at hl 2 rfl) ?_
          refine g_aald F 4 rfl hw 1 rfl k8 dX5_item_43 ?_
          refine lv_iload_n hx hb dX5_item_44 rfl (lv_at hl 4 rfl) ?_
          refine lv_lload hx hb dX5_item_45 (lv_at hl 5 rfl) ?_
          obtain ⟨f12, k13, h20⟩ := ob1 h19
          clear h19
          refine g_vv F (cX2_put_ok l d cy (hs_r0 1) (hs_r1 1) (hs_items 1) (hs_lane 1) (hs_size 1) i3 i4 f12 k13) cal_X2_put t_698 rfl ⟨by decide, by decide⟩ hw (w' := List.flatten [wX cy xx0 nw0 ps0 kp0 kq0 tr0 tp0 hs0 xx_isKept, wH cy hs0 hs_r0 hs_r1 (va_up hs_items 1 f12) hs_lane hs_size]) (SCut.cut (SCut.one (SCut.skip (SCut.take cutH1 SCut.none)))) 0 2 rfl rfl hl.1 (Nat.le_of_ble_eq_true rfl) rfl dX5_item_47 (fun H locs hw => ?_)
          refine lv_iconst (v := 1) hx hb dX5_item_50 (by decide) ?_
          obtain ⟨rfl, rfl⟩ := inj2 h20
          exact hret _ _ _ _ hw dX5_item_51
        · rw [if_neg c11] at h19
          refine lv_iload hx hb dX5_item_35 (lv_at hl 0 rfl) ?_
          obtain ⟨rfl, rfl⟩ := inj2 h19
          exact hret _ _ _ _ hw dX5_item_37
      · refine g_aald F 4 rfl hw 1 rfl k8 dX5_item_21 ?_
        refine lv_iload_n hx hb dX5_item_22 rfl (lv_at hl 2 rfl) ?_
        refine lv_iload_n hx hb dX5_item_23 rfl (lv_at hl 3 rfl) ?_
        refine lv_iconst (v := 1) hx hb dX5_item_24 (by decide) ?_
        obtain ⟨r9, k10, h21⟩ := ob1 h16
        clear h16
        refine g_vi F (cX2_troubleOf_ok l d cy (hs_r0 2) (hs_r1 2) (hs_items 2) (hs_lane 2) (hs_size 2) i2 i3 1 r9 k10) cal_X2_troubleOf t_672 rfl ⟨by decide, by decide⟩ hw (w' := List.flatten [wX cy xx0 nw0 ps0 kp0 kq0 tr0 tp0 hs0 xx_isKept, wH cy hs0 hs_r0 hs_r1 hs_items hs_lane hs_size]) (SCut.cut (SCut.one (SCut.skip (SCut.take cutH2 SCut.none)))) 0 2 rfl rfl hl.1 (Nat.le_of_ble_eq_true rfl) rfl dX5_item_25 (fun H locs hw => ?_)
        refine lv_istore (lv' := [(6, .int r9), (0, .ref xx0), (1, .int i1), (2, .int i2), (3, .int i3), (4, .long i4)]) hx hb dX5_item_28 hl (by decide) rfl (fun ls hl => ?_)
        refine lv_iload hx hb dX5_item_30 (lv_at hl 0 rfl) ?_
        refine lv_if_eq (tgt := 38) hx hb dX5_item_32 (by decide) (fun c11 => ?_) (fun c11 => ?_)
        · rw [if_pos c11] at h21
          refine lv_aload_n hx hb dX5_item_38 rfl (lv_at hl 1 rfl) ?_
          refine g_get F inG5 hw 0 rfl rfl 7 (by decide) t_192 (fun _ h9 => h9) rfl dX5_item_39 ?_
          refine lv_iload_n hx hb dX5_item_42 rfl (lv_at hl 2 rfl) ?_
          refine g_aald F 4 rfl hw 1 rfl k8 dX5_item_43 ?_
          refine lv_iload_n hx hb dX5_item_44 rfl (lv_at hl 4 rfl) ?_
          refine lv_lload hx hb dX5_item_45 (lv_at hl 5 rfl) ?_
          obtain ⟨f12, k13, h22⟩ := ob1 h21
          clear h21
          refine g_vv F (cX2_put_ok l d cy (hs_r0 2) (hs_r1 2) (hs_items 2) (hs_lane 2) (hs_size 2) i3 i4 f12 k13) cal_X2_put t_698 rfl ⟨by decide, by decide⟩ hw (w' := List.flatten [wX cy xx0 nw0 ps0 kp0 kq0 tr0 tp0 hs0 xx_isKept, wH cy hs0 hs_r0 hs_r1 (va_up hs_items 2 f12) hs_lane hs_size]) (SCut.cut (SCut.one (SCut.skip (SCut.take cutH2 SCut.none)))) 0 2 rfl rfl hl.1 (Nat.le_of_ble_eq_true rfl) rfl dX5_item_47 (fun H locs hw => ?_)
          refine lv_iconst (v := 1) hx hb dX5_item_50 (by decide) ?_
          obtain ⟨rfl, rfl⟩ := inj2 h22
          exact hret _ _ _ _ hw dX5_item_51
        · rw [if_neg c11] at h21
          refine lv_iload hx hb dX5_item_35 (lv_at hl 0 rfl) ?_
          obtain ⟨rfl, rfl⟩ := inj2 h21
          exact hret _ _ _ _ hw dX5_item_37
      · refine g_aald F 4 rfl hw 1 rfl k8 dX5_item_21 ?_
        refine lv_iload_n hx hb dX5_item_22 rfl (lv_at hl 2 rfl) ?_
        refine lv_iload_n hx hb dX5_item_23 rfl (lv_at hl 3 rfl) ?_
        refine lv_iconst (v := 1) hx hb dX5_item_24 (by decide) ?_
        obtain ⟨r9, k10, h23⟩ := ob1 h16
        clear h16
        refine g_vi F (cX2_troubleOf_ok l d cy (hs_r0 3) (hs_r1 3) (hs_items 3) (hs_lane 3) (hs_size 3) i2 i3 1 r9 k10) cal_X2_troubleOf t_672 rfl ⟨by decide, by decide⟩ hw (w' := List.flatten [wX cy xx0 nw0 ps0 kp0 kq0 tr0 tp0 hs0 xx_isKept, wH cy hs0 hs_r0 hs_r1 hs_items hs_lane hs_size]) (SCut.cut (SCut.one (SCut.skip (SCut.take cutH3 SCut.none)))) 0 2 rfl rfl hl.1 (Nat.le_of_ble_eq_true rfl) rfl dX5_item_25 (fun H locs hw => ?_)
        refine lv_istore (lv' := [(6, .int r9), (0, .ref xx0), (1, .int i1), (2, .int i2), (3, .int i3), (4, .long i4)]) hx hb dX5_item_28 hl (by decide) rfl (fun ls hl => ?_)
        refine lv_iload hx hb dX5_item_30 (lv_at hl 0 rfl) ?_
        refine lv_if_eq (tgt := 38) hx hb dX5_item_32 (by decide) (fun c11 => ?_) (fun c11 => ?_)
        · rw [if_pos c11] at h23
          refine lv_aload_n hx hb dX5_item_38 rfl (lv_at hl 1 rfl) ?_
          refine g_get F inG5 hw 0 rfl rfl 7 (by decide) t_192 (fun _ h9 => h9) rfl dX5_item_39 ?_
          refine lv_iload_n hx hb dX5_item_42 rfl (lv_at hl 2 rfl) ?_
          refine g_aald F 4 rfl hw 1 rfl k8 dX5_item_43 ?_
          refine lv_iload_n hx hb dX5_item_44 rfl (lv_at hl 4 rfl) ?_
          refine lv_lload hx hb dX5_item_45 (lv_at hl 5 rfl) ?_
          obtain ⟨f12, k13, h24⟩ := ob1 h23
          clear h23
          refine g_vv F (cX2_put_ok l d cy (hs_r0 3) (hs_r1 3) (hs_items 3) (hs_lane 3) (hs_size 3) i3 i4 f12 k13) cal_X2_put t_698 rfl ⟨by decide, by decide⟩ hw (w' := List.flatten [wX cy xx0 nw0 ps0 kp0 kq0 tr0 tp0 hs0 xx_isKept, wH cy hs0 hs_r0 hs_r1 (va_up hs_items 3 f12) hs_lane hs_size]) (SCut.cut (SCut.one (SCut.skip (SCut.take cutH3 SCut.none)))) 0 2 rfl rfl hl.1 (Nat.le_of_ble_eq_true rfl) rfl dX5_item_47 (fun H locs hw => ?_)
          refine lv_iconst (v := 1) hx hb dX5_item_50 (by decide) ?_
          obtain ⟨rfl, rfl⟩ := inj2 h24
          exact hret _ _ _ _ hw dX5_item_51
        · rw [if_neg c11] at h23
          refine lv_iload hx hb dX5_item_35 (lv_at hl 0 rfl) ?_
          obtain ⟨rfl, rfl⟩ := inj2 h23
          exact hret _ _ _ _ hw dX5_item_37
    · rw [if_pos c6] at h15
      refine lv_iconst (v := (-1)) hx hb dX5_item_14 (by decide) ?_
      obtain ⟨rfl, rfl⟩ := inj2 h15
      exact hret _ _ _ _ hw dX5_item_15
theorem cal_X5_copy : CalV yX5_copy cX5_copy 8 (some .int) RX5 5 := ⟨t_721, t_719, t_720, t_37, by decide +kernel⟩
set_option maxHeartbeats 4000000 in
set_option maxRecDepth 100000 in
theorem cX5_copy_ok (l : Launch) (d : va_G) (cy : Nat → ClassId) (xx0 hs0 nw0 ps0 kp0 kq0 tr0 tp0 : Nat) (xx_isKept : Int32) (hs_r0 : Nat → Nat) (hs_r1 : Nat → Nat) (hs_items : Nat → Nat → Int64) (hs_lane : Nat → Int32) (hs_size : Nat → Int32) (i1 : Int32) (i2 : Int32) (i3 : Int32) (i4 : Int32) (i5 : Int32) (r : Int32) (hs_items_r : Nat → Nat → Int64) (h0 : fX5_copy hs_items hs_lane hs_size i1 i2 i3 i4 i5 = some (r, hs_items_r)) : CI l yX5_copy cX5_copy 8 (some .int) 2 60 d cy [.ref xx0, .int i1, .int i2, .int i3, .int i4, .int i5] (List.flatten [wX cy xx0 nw0 ps0 kp0 kq0 tr0 tp0 hs0 xx_isKept, wH cy hs0 hs_r0 hs_r1 hs_items hs_lane hs_size]) (List.flatten [wX cy xx0 nw0 ps0 kp0 kq0 tr0 tp0 hs0 xx_isKept, wH cy hs0 hs_r0 hs_r1 hs_items_r hs_lane hs_size]) r := by
  refine CI.of (by decide) (Nat.le_of_ble_eq_true rfl) ?_
  intro p e s m args below meth c A ls Q F hret hw hl
  have hx := F.1
  have hb := F.2.1
  have hl : lv_has ls 8 [(0, .ref xx0), (1, .int i1), (2, .int i2), (3, .int i3), (4, .int i4), (5, .int i5)] := hl
  rw [fX5_copy] at h0
  refine lv_iload_n hx hb dX5_copy_0 rfl (lv_at hl 1 rfl) ?_
  obtain ⟨r1, k2, h21⟩ := ob1 h0
  clear h0
  refine g_si F (cX5_isSheet_ok l d cy i1 r1 k2) cal_X5_isSheet t_666 rfl ⟨by decide, by decide⟩ hw (w' := List.flatten [wX cy xx0 nw0 ps0 kp0 kq0 tr0 tp0 hs0 xx_isKept, wH cy hs0 hs_r0 hs_r1 hs_items hs_lane hs_size]) Cut.nil hl.1 (Nat.le_of_ble_eq_true rfl) rfl dX5_copy_1 (fun H locs hw => ?_)
  refine lv_if_eq (tgt := 14) hx hb dX5_copy_4 (by decide) (fun c3 => ?_) (fun c3 => ?_)
  · rw [if_pos c3] at h21
    refine lv_iconst (v := (-1)) hx hb dX5_copy_14 (by decide) ?_
    obtain ⟨rfl, rfl⟩ := inj2 h21
    exact hret _ _ _ _ hw dX5_copy_15
  · rw [if_neg c3] at h21
    refine lv_iload_n hx hb dX5_copy_7 rfl (lv_at hl 3 rfl) ?_
    obtain ⟨r4, k5, h22⟩ := ob1 h21
    clear h21
    refine g_si F (cX5_isSheet_ok l d cy i3 r4 k5) cal_X5_isSheet t_666 rfl ⟨by decide, by decide⟩ hw (w' := List.flatten [wX cy xx0 nw0 ps0 kp0 kq0 tr0 tp0 hs0 xx_isKept, wH cy hs0 hs_r0 hs_r1 hs_items hs_lane hs_size]) Cut.nil hl.1 (Nat.le_of_ble_eq_true rfl) rfl dX5_copy_8 (fun H locs hw => ?_)
    refine lv_if_ne (tgt := 16) hx hb dX5_copy_11 (by decide) (fun c6 => ?_) (fun c6 => ?_)
    · rw [if_neg c6] at h22
      refine lv_aload_n hx hb dX5_copy_16 rfl (lv_at hl 0 rfl) ?_
      refine g_get F inG5 hw 0 rfl rfl 7 (by decide) t_192 (fun _ h9 => h9) rfl dX5_copy_17 ?_
      refine lv_iload_n hx hb dX5_copy_20 rfl (lv_at hl 1 rfl) ?_
      obtain ⟨j7, k8, h23⟩ := ob1 h22
      clear h22
      rcases ix4 k8 with rfl | rfl | rfl | rfl
      · refine g_aald F 4 rfl hw 1 rfl k8 dX5_copy_21 ?_
        refine lv_astore (lv' := [(6, .ref (hs_r0 0)), (0, .ref xx0), (1, .int i1), (2, .int i2), (3, .int i3), (4, .int i4), (5, .int i5)]) hx hb dX5_copy_22 hl (by decide) rfl (fun ls hl => ?_)
        refine lv_aload_n hx hb dX5_copy_24 rfl (lv_at hl 1 rfl) ?_
        refine g_get F inG5 hw 0 rfl rfl 7 (by decide) t_192 (fun _ h9 => h9) rfl dX5_copy_25 ?_
        refine lv_iload_n hx hb dX5_copy_28 rfl (lv_at hl 4 rfl) ?_
        obtain ⟨j9, k10, h24⟩ := ob1 h23
        clear h23
        rcases ix4 k10 with rfl | rfl | rfl | rfl
        · refine g_aald F 4 rfl hw 1 rfl k10 dX5_copy_29 ?_
          refine lv_astore (lv' := [(7, .ref (hs_r0 0)), (6, .ref (hs_r0 0)), (0, .ref xx0), (1, .int i1), (2, .int i2), (3, .int i3), (4, .int i4), (5, .int i5)]) hx hb dX5_copy_30 hl (by decide) rfl (fun ls hl => ?_)
          refine lv_aload hx hb dX5_copy_32 (lv_at hl 1 rfl) ?_
          refine g_get F inG2 hw 2 rfl rfl 1 (by decide) t_174 (fun _ h9 => h9) rfl dX5_copy_34 ?_
          refine lv_iconst (v := (-1)) hx hb dX5_copy_37 (by decide) ?_
          refine lv_icmp_eq (tgt := 50) hx hb dX5_copy_38 (by decide) (fun c11 => ?_) (fun c11 => ?_)
          · rw [if_pos c11] at h24
            refine lv_bipush (v := (-11)) hx hb dX5_copy_50 (by decide) ?_
            obtain ⟨rfl, rfl⟩ := inj2 h24
            exact hret _ _ _ _ hw dX5_copy_52
          · rw [if_neg c11] at h24
            refine lv_aload hx hb dX5_copy_41 (lv_at hl 0 rfl) ?_
            refine g_get F inG2 hw 2 rfl rfl 1 (by decide) t_174 (fun _ h9 => h9) rfl dX5_copy_43 ?_
            refine lv_iconst (v := (-1)) hx hb dX5_copy_46 (by decide) ?_
            refine lv_icmp_ne (tgt := 53) hx hb dX5_copy_47 (by decide) (fun c12 => ?_) (fun c12 => ?_)
            · rw [if_neg c12] at h24
              refine lv_aload hx hb dX5_copy_53 (lv_at hl 1 rfl) ?_
              refine g_get F inG2 hw 2 rfl rfl 1 (by decide) t_174 (fun _ h9 => h9) rfl dX5_copy_55 ?_
              refine lv_aload hx hb dX5_copy_58 (lv_at hl 0 rfl) ?_
              refine g_get F inG2 hw 2 rfl rfl 1 (by decide) t_174 (fun _ h9 => h9) rfl dX5_copy_60 ?_
              refine lv_icmp_eq (tgt := 69) hx hb dX5_copy_63 (by decide) (fun c13 => ?_) (fun c13 => ?_)
              · rw [if_pos c13] at h24
                refine lv_aload hx hb dX5_copy_69 (lv_at hl 1 rfl) ?_
                refine lv_iload_n hx hb dX5_copy_71 rfl (lv_at hl 4 rfl) ?_
                refine lv_iload hx hb dX5_copy_72 (lv_at hl 7 rfl) ?_
                obtain ⟨r14, k15, h25⟩ := ob1 h24
                clear h24
                refine g_vi F (cX2_hasRoom_ok l d cy (hs_r0 0) (hs_r1 0) (hs_items 0) (hs_lane 0) (hs_size 0) i2 i5 r14 k15) cal_X2_hasRoom t_722 rfl ⟨by decide, by decide⟩ hw (w' := List.flatten [wX cy xx0 nw0 ps0 kp0 kq0 tr0 tp0 hs0 xx_isKept, wH cy hs0 hs_r0 hs_r1 hs_items hs_lane hs_size]) (SCut.cut (SCut.one (SCut.skip (SCut.take cutH0 SCut.none)))) 0 2 rfl rfl hl.1 (Nat.le_of_ble_eq_true rfl) rfl dX5_copy_74 (fun H locs hw => ?_)
                refine lv_if_eq (tgt := 92) hx hb dX5_copy_77 (by decide) (fun c16 => ?_) (fun c16 => ?_)
                · rw [if_pos c16] at h25
                  refine lv_bipush (v := (-13)) hx hb dX5_copy_92 (by decide) ?_
                  obtain ⟨rfl, rfl⟩ := inj2 h25
                  exact hret _ _ _ _ hw dX5_copy_94
                · rw [if_neg c16] at h25
                  refine lv_aload hx hb dX5_copy_80 (lv_at hl 0 rfl) ?_
                  refine lv_iload hx hb dX5_copy_82 (lv_at hl 6 rfl) ?_
                  refine lv_iload hx hb dX5_copy_84 (lv_at hl 7 rfl) ?_
                  obtain ⟨r17, k18, h26⟩ := ob1 h25
                  clear h25
                  refine g_vi F (cX2_hasRoom_ok l d cy (hs_r0 0) (hs_r1 0) (hs_items 0) (hs_lane 0) (hs_size 0) i4 i5 r17 k18) cal_X2_hasRoom t_722 rfl ⟨by decide, by decide⟩ hw (w' := List.flatten [wX cy xx0 nw0 ps0 kp0 kq0 tr0 tp0 hs0 xx_isKept, wH cy hs0 hs_r0 hs_r1 hs_items hs_lane hs_size]) (SCut.cut (SCut.one (SCut.skip (SCut.take cutH0 SCut.none)))) 0 2 rfl rfl hl.1 (Nat.le_of_ble_eq_true rfl) rfl dX5_copy_86 (fun H locs hw => ?_)
                  refine lv_if_ne (tgt := 95) hx hb dX5_copy_89 (by decide) (fun c19 => ?_) (fun c19 => ?_)
                  · rw [if_neg c19] at h26
                    refine lv_aload hx hb dX5_copy_95 (lv_at hl 1 rfl) ?_
                    refine g_get F inG2 hw 2 rfl rfl 0 (by decide) t_172 (fun _ h9 => h9) rfl dX5_copy_97 ?_
                    refine lv_iload_n hx hb dX5_copy_100 rfl (lv_at hl 4 rfl) ?_
                    refine lv_aload hx hb dX5_copy_101 (lv_at hl 0 rfl) ?_
                    refine g_get F inG2 hw 2 rfl rfl 0 (by decide) t_172 (fun _ h9 => h9) rfl dX5_copy_103 ?_
                    refine lv_iload hx hb dX5_copy_106 (lv_at hl 6 rfl) ?_
                    refine lv_iload hx hb dX5_copy_108 (lv_at hl 7 rfl) ?_
                    obtain ⟨k20, h27⟩ := ob0 h26
                    clear h26
                    refine va_copyl (ty := .long) hx hb (F.2.2.2.2.1.trans hl.1.symm) F.2.2.2.2.2.1 (F.2.2.2.2.2.2.1 _ t_723) (F.2.2.2.2.2.2.1 _ t_311) (F.2.2.2.2.2.2.1 _ t_310) (F.2.2.2.2.2.2.1 _ t_44) F.2.2.2.2.2.2.2.1.1 hw.1 hw.2.1 hw.2.2 3 3 1 1 rfl rfl rfl rfl rfl (cpo_h k20).1 (cpo_h k20).2.1 (cpo_h k20).2.2.1 (cpo_h k20).2.2.2.1 (cpo_h k20).2.2.2.2 (fun _ _ => rfl) (by decide) (by decide +kernel) dX5_copy_110 (fun H locs hP hD hS => ?_)
                    have hw : Wd d A s.heap (List.flatten [wX cy xx0 nw0 ps0 kp0 kq0 tr0 tp0 hs0 xx_isKept, wH cy hs0 hs_r0 hs_r1 (va_up hs_items 0 (va_cpy (hs_items 0) (hs_items 0) (Int32.toNatClampNeg i2) (Int32.toNatClampNeg i4) (Int32.toNatClampNeg i5))) hs_lane hs_size]) H locs := ⟨hP, hD, hS⟩
                    refine lv_iload hx hb dX5_copy_113 (lv_at hl 7 rfl) ?_
                    obtain ⟨rfl, rfl⟩ := inj2 h27
                    exact hret _ _ _ _ hw dX5_copy_115
                  · rw [if_pos c19] at h26
                    refine lv_bipush (v := (-13)) hx hb dX5_copy_92 (by decide) ?_
                    obtain ⟨rfl, rfl⟩ := inj2 h26
                    exact hret _ _ _ _ hw dX5_copy_94
              · rw [if_neg c13] at h24
                refine lv_bipush (v := (-12)) hx hb dX5_copy_66 (by decide) ?_
                obtain ⟨rfl, rfl⟩ := inj2 h24
                exact hret _ _ _ _ hw dX5_copy_68
            · rw [if_pos c12] at h24
              refine lv_bipush (v := (-11)) hx hb dX5_copy_50 (by decide) ?_
              obtain ⟨rfl, rfl⟩ := inj2 h24
              exact hret _ _ _ _ hw dX5_copy_52
        · refine g_aald F 4 rfl hw 1 rfl k10 dX5_copy_29 ?_
          refine lv_astore (lv' := [(7, .ref (hs_r0 1)), (6, .ref (hs_r0 0)), (0, .ref xx0), (1, .int i1), (2, .int i2), (3, .int i3), (4, .int i4), (5, .int i5)]) hx hb dX5_copy_30 hl (by decide) rfl (fun ls hl => ?_)
          refine lv_aload hx hb dX5_copy_32 (lv_at hl 1 rfl) ?_
          refine g_get F inG2 hw 2 rfl rfl 1 (by decide) t_174 (fun _ h9 => h9) rfl dX5_copy_34 ?_
          refine lv_iconst (v := (-1)) hx hb dX5_copy_37 (by decide) ?_
          refine lv_icmp_eq (tgt := 50) hx hb dX5_copy_38 (by decide) (fun c11 => ?_) (fun c11 => ?_)
          · rw [if_pos c11] at h24
            refine lv_bipush (v := (-11)) hx hb dX5_copy_50 (by decide) ?_
            obtain ⟨rfl, rfl⟩ := inj2 h24
            exact hret _ _ _ _ hw dX5_copy_52
          · rw [if_neg c11] at h24
            refine lv_aload hx hb dX5_copy_41 (lv_at hl 0 rfl) ?_
            refine g_get F inG2 hw 4 rfl rfl 1 (by decide) t_174 (fun _ h9 => h9) rfl dX5_copy_43 ?_
            refine lv_iconst (v := (-1)) hx hb dX5_copy_46 (by decide) ?_
            refine lv_icmp_ne (tgt := 53) hx hb dX5_copy_47 (by decide) (fun c12 => ?_) (fun c12 => ?_)
            · rw [if_neg c12] at h24
              refine lv_aload hx hb dX5_copy_53 (lv_at hl 1 rfl) ?_
              refine g_get F inG2 hw 2 rfl rfl 1 (by decide) t_174 (fun _ h9 => h9) rfl dX5_copy_55 ?_
              refine lv_aload hx hb dX5_copy_58 (lv_at hl 0 rfl) ?_
              refine g_get F inG2 hw 4 rfl rfl 1 (by decide) t_174 (fun _ h9 => h9) rfl dX5_copy_60 ?_
              refine lv_icmp_eq (tgt := 69) hx hb dX5_copy_63 (by decide) (fun c13 => ?_) (fun c13 => ?_)
              · rw [if_pos c13] at h24
                refine lv_aload hx hb dX5_copy_69 (lv_at hl 1 rfl) ?_
                refine lv_iload_n hx hb dX5_copy_71 rfl (lv_at hl 4 rfl) ?_
                refine lv_iload hx hb dX5_copy_72 (lv_at hl 7 rfl) ?_
                obtain ⟨r14, k15, h28⟩ := ob1 h24
                clear h24
                refine g_vi F (cX2_hasRoom_ok l d cy (hs_r0 0) (hs_r1 0) (hs_items 0) (hs_lane 0) (hs_size 0) i2 i5 r14 k15) cal_X2_hasRoom t_722 rfl ⟨by decide, by decide⟩ hw (w' := List.flatten [wX cy xx0 nw0 ps0 kp0 kq0 tr0 tp0 hs0 xx_isKept, wH cy hs0 hs_r0 hs_r1 hs_items hs_lane hs_size]) (SCut.cut (SCut.one (SCut.skip (SCut.take cutH0 SCut.none)))) 0 2 rfl rfl hl.1 (Nat.le_of_ble_eq_true rfl) rfl dX5_copy_74 (fun H locs hw => ?_)
                refine lv_if_eq (tgt := 92) hx hb dX5_copy_77 (by decide) (fun c16 => ?_) (fun c16 => ?_)
                · rw [if_pos c16] at h28
                  refine lv_bipush (v := (-13)) hx hb dX5_copy_92 (by decide) ?_
                  obtain ⟨rfl, rfl⟩ := inj2 h28
                  exact hret _ _ _ _ hw dX5_copy_94
                · rw [if_neg c16] at h28
                  refine lv_aload hx hb dX5_copy_80 (lv_at hl 0 rfl) ?_
                  refine lv_iload hx hb dX5_copy_82 (lv_at hl 6 rfl) ?_
                  refine lv_iload hx hb dX5_copy_84 (lv_at hl 7 rfl) ?_
                  obtain ⟨r17, k18, h29⟩ := ob1 h28
                  clear h28
                  refine g_vi F (cX2_hasRoom_ok l d cy (hs_r0 1) (hs_r1 1) (hs_items 1) (hs_lane 1) (hs_size 1) i4 i5 r17 k18) cal_X2_hasRoom t_722 rfl ⟨by decide, by decide⟩ hw (w' := List.flatten [wX cy xx0 nw0 ps0 kp0 kq0 tr0 tp0 hs0 xx_isKept, wH cy hs0 hs_r0 hs_r1 hs_items hs_lane hs_size]) (SCut.cut (SCut.one (SCut.skip (SCut.take cutH1 SCut.none)))) 0 2 rfl rfl hl.1 (Nat.le_of_ble_eq_true rfl) rfl dX5_copy_86 (fun H locs hw => ?_)
                  refine lv_if_ne (tgt := 95) hx hb dX5_copy_89 (by decide) (fun c19 => ?_) (fun c19 => ?_)
                  · rw [if_neg c19] at h29
                    refine lv_aload hx hb dX5_copy_95 (lv_at hl 1 rfl) ?_
                    refine g_get F inG2 hw 2 rfl rfl 0 (by decide) t_172 (fun _ h9 => h9) rfl dX5_copy_97 ?_
                    refine lv_iload_n hx hb dX5_copy_100 rfl (lv_at hl 4 rfl) ?_
                    refine lv_aload hx hb dX5_copy_101 (lv_at hl 0 rfl) ?_
                    refine g_get F inG2 hw 4 rfl rfl 0 (by decide) t_172 (fun _ h9 => h9) rfl dX5_copy_103 ?_
                    refine lv_iload hx hb dX5_copy_106 (lv_at hl 6 rfl) ?_
                    refine lv_iload hx hb dX5_copy_108 (lv_at hl 7 rfl) ?_
                    obtain ⟨k20, h30⟩ := ob0 h29
                    clear h29
                    refine va_copyl (ty := .long) hx hb (F.2.2.2.2.1.trans hl.1.symm) F.2.2.2.2.2.1 (F.2.2.2.2.2.2.1 _ t_723) (F.2.2.2.2.2.2.1 _ t_311) (F.2.2.2.2.2.2.1 _ t_310) (F.2.2.2.2.2.2.1 _ t_44) F.2.2.2.2.2.2.2.1.1 hw.1 hw.2.1 hw.2.2 3 5 1 1 rfl rfl rfl rfl rfl (cpo_h k20).1 (cpo_h k20).2.1 (cpo_h k20).2.2.1 (cpo_h k20).2.2.2.1 (cpo_h k20).2.2.2.2 (fun _ _ => rfl) (by decide) (by decide +kernel) dX5_copy_110 (fun H locs hP hD hS => ?_)
                    have hw : Wd d A s.heap (List.flatten [wX cy xx0 nw0 ps0 kp0 kq0 tr0 tp0 hs0 xx_isKept, wH cy hs0 hs_r0 hs_r1 (va_up hs_items 1 (va_cpy (hs_items 0) (hs_items 1) (Int32.toNatClampNeg i2) (Int32.toNatClampNeg i4) (Int32.toNatClampNeg i5))) hs_lane hs_size]) H locs := ⟨hP, hD, hS⟩
                    refine lv_iload hx hb dX5_copy_113 (lv_at hl 7 rfl) ?_
                    obtain ⟨rfl, rfl⟩ := inj2 h30
                    exact hret _ _ _ _ hw dX5_copy_115
                  · rw [if_pos c19] at h29
                    refine lv_bipush (v := (-13)) hx hb dX5_copy_92 (by decide) ?_
                    obtain ⟨rfl, rfl⟩ := inj2 h29
                    exact hret _ _ _ _ hw dX5_copy_94
              · rw [if_neg c13] at h24
                refine lv_bipush (v := (-12)) hx hb dX5_copy_66 (by decide) ?_
                obtain ⟨rfl, rfl⟩ := inj2 h24
                exact hret _ _ _ _ hw dX5_copy_68
            · rw [if_pos c12] at h24
              refine lv_bipush (v := (-11)) hx hb dX5_copy_50 (by decide) ?_
              obtain ⟨rfl, rfl⟩ := inj2 h24
              exact hret _ _ _ _ hw dX5_copy_52
        · refine g_aald F 4 rfl hw 1 rfl k10 dX5_copy_29 ?_
          refine lv_astore (lv' := [(7, .ref (hs_r0 2)), (6, .ref (hs_r0 0)), (0, .ref xx0), (1, .int i1), (2, .int i2), (3, .int i3), (4, .int i4), (5, .int i5)]) hx hb dX5_copy_30 hl (by decide) rfl (fun ls hl => ?_)
          refine lv_aload hx hb dX5_copy_32 (lv_at hl 1 rfl) ?_
          refine g_get F inG2 hw 2 rfl rfl 1 (by decide) t_174 (fun _ h9 => h9) rfl dX5_copy_34 ?_
          refine lv_iconst (v := (-1)) hx hb dX5_copy_37 (by decide) ?_
          refine lv_icmp_eq (tgt := 50) hx hb dX5_copy_38 (by decide) (fun c11 => ?_) (fun c11 => ?_)
          · rw [if_pos c11] at h24
            refine lv_bipush (v := (-11)) hx hb dX5_copy_50 (by decide) ?_
            obtain ⟨rfl, rfl⟩ := inj2 h24
            exact hret _ _ _ _ hw dX5_copy_52
          · rw [if_neg c11] at h24
            refine lv_aload hx hb dX5_copy_41 (lv_at hl 0 rfl) ?_
            refine g_get F inG2 hw 6 rfl rfl 1 (by decide) t_174 (fun _ h9 => h9) rfl dX5_copy_43 ?_
            refine lv_iconst (v := (-1)) hx hb dX5_copy_46 (by decide) ?_
            refine lv_icmp_ne (tgt := 53) hx hb dX5_copy_47 (by decide) (fun c12 => ?_) (fun c12 => ?_)
            · rw [if_neg c12] at h24
              refine lv_aload hx hb dX5_copy_53 (lv_at hl 1 rfl) ?_
              refine g_get F inG2 hw 2 rfl rfl 1 (by decide) t_174 (fun _ h9 => h9) rfl dX5_copy_55 ?_
              refine lv_aload hx hb dX5_copy_58 (lv_at hl 0 rfl) ?_
              refine g_get F inG2 hw 6 rfl rfl 1 (by decide) t_174 (fun _ h9 => h9) rfl dX5_copy_60 ?_
              refine lv_icmp_eq (tgt := 69) hx hb dX5_copy_63 (by decide) (fun c13 => ?_) (fun c13 => ?_)
              · rw [if_pos c13] at h24
                refine lv_aload hx hb dX5_copy_69 (lv_at hl 1 rfl) ?_
                refine lv_iload_n hx hb dX5_copy_71 rfl (lv_at hl 4 rfl) ?_
                refine lv_iload hx hb dX5_copy_72 (lv_at hl 7 rfl) ?_
                obtain ⟨r14, k15, h31⟩ := ob1 h24
                clear h24
                refine g_vi F (cX2_hasRoom_ok l d cy (hs_r0 0) (hs_r1 0) (hs_items 0) (hs_lane 0) (hs_size 0) i2 i5 r14 k15) cal_X2_hasRoom t_722 rfl ⟨by decide, by decide⟩ hw (w' := List.flatten [wX cy xx0 nw0 ps0 kp0 kq0 tr0 tp0 hs0 xx_isKept, wH cy hs0 hs_r0 hs_r1 hs_items hs_lane hs_size]) (SCut.cut (SCut.one (SCut.skip (SCut.take cutH0 SCut.none)))) 0 2 rfl rfl hl.1 (Nat.le_of_ble_eq_true rfl) rfl dX5_copy_74 (fun H locs hw => ?_)
                refine lv_if_eq (tgt := 92) hx hb dX5_copy_77 (by decide) (fun c16 => ?_) (fun c16 => ?_)
                · rw [if_pos c16] at h31
                  refine lv_bipush (v := (-13)) hx hb dX5_copy_92 (by decide) ?_
                  obtain ⟨rfl, rfl⟩ := inj2 h31
                  exact hret _ _ _ _ hw dX5_copy_94
                · rw [if_neg c16] at h31
                  refine lv_aload hx hb dX5_copy_80 (lv_at hl 0 rfl) ?_
                  refine lv_iload hx hb dX5_copy_82 (lv_at hl 6 rfl) ?_
                  refine lv_iload hx hb dX5_copy_84 (lv_at hl 7 rfl) ?_
                  obtain ⟨r17, k18, h32⟩ := ob1 h31
                  clear h31
                  refine g_vi F (cX2_hasRoom_ok l d cy (hs_r0 2) (hs_r1 2) (hs_items 2) (hs_lane 2) (hs_size 2) i4 i5 r17 k18) cal_X2_hasRoom t_722 rfl ⟨by decide, by decide⟩ hw (w' := List.flatten [wX cy xx0 nw0 ps0 kp0 kq0 tr0 tp0 hs0 xx_isKept, wH cy hs0 hs_r0 hs_r1 hs_items hs_lane hs_size]) (SCut.cut (SCut.one (SCut.skip (SCut.take cutH2 SCut.none)))) 0 2 rfl rfl hl.1 (Nat.le_of_ble_eq_true rfl) rfl dX5_copy_86 (fun H locs hw => ?_)
                  refine lv_if_ne (tgt := 95) hx hb dX5_copy_89 (by decide) (fun c19 => ?_) (fun c19 => ?_)
                  · rw [if_neg c19] at h32
                    refine lv_aload hx hb dX5_copy_95 (lv_at hl 1 rfl) ?_
                    refine g_get F inG2 hw 2 rfl rfl 0 (by decide) t_172 (fun _ h9 => h9) rfl dX5_copy_97 ?_
                    refine lv_iload_n hx hb dX5_copy_100 rfl (lv_at hl 4 rfl) ?_
                    refine lv_aload hx hb dX5_copy_101 (lv_at hl 0 rfl) ?_
                    refine g_get F inG2 hw 6 rfl rfl 0 (by decide) t_172 (fun _ h9 => h9) rfl dX5_copy_103 ?_
                    refine lv_iload hx hb dX5_copy_106 (lv_at hl 6 rfl) ?_
                    refine lv_iload hx hb dX5_copy_108 (lv_at hl 7 rfl) ?_
                    obtain ⟨k20, h33⟩ := ob0 h32
                    clear h32
                    refine va_copyl (ty := .long) hx hb (F.2.2.2.2.1.trans hl.1.symm) F.2.2.2.2.2.1 (F.2.2.2.2.2.2.1 _ t_723) (F.2.2.2.2.2.2.1 _ t_311) (F.2.2.2.2.2.2.1 _ t_310) (F.2.2.2.2.2.2.1 _ t_44) F.2.2.2.2.2.2.2.1.1 hw.1 hw.2.1 hw.2.2 3 7 1 1 rfl rfl rfl rfl rfl (cpo_h k20).1 (cpo_h k20).2.1 (cpo_h k20).2.2.1 (cpo_h k20).2.2.2.1 (cpo_h k20).2.2.2.2 (fun _ _ => rfl) (by decide) (by decide +kernel) dX5_copy_110 (fun H locs hP hD hS => ?_)
                    have hw : Wd d A s.heap (List.flatten [wX cy xx0 nw0 ps0 kp0 kq0 tr0 tp0 hs0 xx_isKept, wH cy hs0 hs_r0 hs_r1 (va_up hs_items 2 (va_cpy (hs_items 0) (hs_items 2) (Int32.toNatClampNeg i2) (Int32.toNatClampNeg i4) (Int32.toNatClampNeg i5))) hs_lane hs_size]) H locs := ⟨hP, hD, hS⟩
                    refine lv_iload hx hb dX5_copy_113 (lv_at hl 7 rfl) ?_
                    obtain ⟨rfl, rfl⟩ := inj2 h33
                    exact hret _ _ _ _ hw dX5_copy_115
                  · rw [if_pos c19] at h32
                    refine lv_bipush (v := (-13)) hx hb dX5_copy_92 (by decide) ?_
                    obtain ⟨rfl, rfl⟩ := inj2 h32
                    exact hret _ _ _ _ hw dX5_copy_94
              · rw [if_neg c13] at h24
                refine lv_bipush (v := (-12)) hx hb dX5_copy_66 (by decide) ?_
                obtain ⟨rfl, rfl⟩ := inj2 h24
                exact hret _ _ _ _ hw dX5_copy_68
            · rw [if_pos c12] at h24
              refine lv_bipush (v := (-11)) hx hb dX5_copy_50 (by decide) ?_
              obtain ⟨rfl, rfl⟩ := inj2 h24
              exact hret _ _ _ _ hw dX5_copy_52
        · refine g_aald F 4 rfl hw 1 rfl k10 dX5_copy_29 ?_
          refine lv_astore (lv' := [(7, .ref (hs_r0 3)), (6, .ref (hs_r0 0)), (0, .ref xx0), (1, .int i1), (2, .int i2), (3, .int i3), (4, .int i4), (5, .int i5)]) hx hb dX5_copy_30 hl (by decide) rfl (fun ls hl => ?_)
          refine lv_aload hx hb dX5_copy_32 (lv_at hl 1 rfl) ?_
          refine g_get F inG2 hw 2 rfl rfl 1 (by decide) t_174 (fun _ h9 => h9) rfl dX5_copy_34 ?_
          refine lv_iconst (v := (-1)) hx hb dX5_copy_37 (by decide) ?_
          refine lv_icmp_eq (tgt := 50) hx hb dX5_copy_38 (by decide) (fun c11 => ?_) (fun c11 => ?_)
          · rw [if_pos c11] at h24
            refine lv_bipush (v := (-11)) hx hb dX5_copy_50 (by decide) ?_
            obtain ⟨rfl, rfl⟩ := inj2 h24
            exact hret _ _ _ _ hw dX5_copy_52
          · rw [if_neg c11] at h24
            refine lv_aload hx hb dX5_copy_41 (lv_at hl 0 rfl) ?_
            refine g_get F inG2 hw 8 rfl rfl 1 (by decide) t_174 (fun _ h9 => h9) rfl dX5_copy_43 ?_
            refine lv_iconst (v := (-1)) hx hb dX5_copy_46 (by decide) ?_
            refine lv_icmp_ne (tgt := 53) hx hb dX5_copy_47 (by decide) (fun c12 => ?_) (fun c12 => ?_)
            · rw [if_neg c12] at h24
              refine lv_aload hx hb dX5_copy_53 (lv_at hl 1 rfl) ?_
              refine g_get F inG2 hw 2 rfl rfl 1 (by decide) t_174 (fun _ h9 => h9) rfl dX5_copy_55 ?_
              refine lv_aload hx hb dX5_copy_58 (lv_at hl 0 rfl) ?_
              refine g_get F inG2 hw 8 rfl rfl 1 (by decide) t_174 (fun _ h9 => h9) rfl dX5_copy_60 ?_
              refine lv_icmp_eq (tgt := 69) hx hb dX5_copy_63 (by decide) (fun c13 => ?_) (fun c13 => ?_)
              · rw [if_pos c13] at h24
                refine lv_aload hx hb dX5_copy_69 (lv_at hl 1 rfl) ?_
                refine lv_iload_n hx hb dX5_copy_71 rfl (lv_at hl 4 rfl) ?_
                refine lv_iload hx hb dX5_copy_72 (lv_at hl 7 rfl) ?_
                obtain ⟨r14, k15, h34⟩ := ob1 h24
                clear h24
                refine g_vi F (cX2_hasRoom_ok l d cy (hs_r0 0) (hs_r1 0) (hs_items 0) (hs_lane 0) (hs_size 0) i2 i5 r14 k15) cal_X2_hasRoom t_722 rfl ⟨by decide, by decide⟩ hw (w' := List.flatten [wX cy xx0 nw0 ps0 kp0 kq0 tr0 tp0 hs0 xx_isKept, wH cy hs0 hs_r0 hs_r1 hs_items hs_lane hs_size]) (SCut.cut (SCut.one (SCut.skip (SCut.take cutH0 SCut.none)))) 0 2 rfl rfl hl.1 (Nat.le_of_ble_eq_true rfl) rfl dX5_copy_74 (fun H locs hw => ?_)
                refine lv_if_eq (tgt := 92) hx hb dX5_copy_77 (by decide) (fun c16 => ?_) (fun c16 => ?_)
                · rw [if_pos c16] at h34
                  refine lv_bipush (v := (-13)) hx hb dX5_copy_92 (by decide) ?_
                  obtain ⟨rfl, rfl⟩ := inj2 h34
                  exact hret _ _ _ _ hw dX5_copy_94
                · rw [if_neg c16] at h34
                  refine lv_aload hx hb dX5_copy_80 (lv_at hl 0 rfl) ?_
                  refine lv_iload hx hb dX5_copy_82 (lv_at hl 6 rfl) ?_
                  refine lv_iload hx hb dX5_copy_84 (lv_at hl 7 rfl) ?_
                  obtain ⟨r17, k18, h35⟩ := ob1 h34
                  clear h34
                  refine g_vi F (cX2_hasRoom_ok l d cy (hs_r0 3) (hs_r1 3) (hs_items 3) (hs_lane 3) (hs_size 3) i4 i5 r17 k18) cal_X2_hasRoom t_722 rfl ⟨by decide, by decide⟩ hw (w' := List.flatten [wX cy xx0 nw0 ps0 kp0 kq0 tr0 tp0 hs0 xx_isKept, wH cy hs0 hs_r0 hs_r1 hs_items hs_lane hs_size]) (SCut.cut (SCut.one (SCut.skip (SCut.take cutH3 SCut.none)))) 0 2 rfl rfl hl.1 (Nat.le_of_ble_eq_true rfl) rfl dX5_copy_86 (fun H locs hw => ?_)
                  refine lv_if_ne (tgt := 95) hx hb dX5_copy_89 (by decide) (fun c19 => ?_) (fun c19 => ?_)
                  · rw [if_neg c19] at h35
                    refine lv_aload hx hb dX5_copy_95 (lv_at hl 1 rfl) ?_
                    refine g_get F inG2 hw 2 rfl rfl 0 (by decide) t_172 (fun _ h9 => h9) rfl dX5_copy_97 ?_
                    refine lv_iload_n hx hb dX5_copy_100 rfl (lv_at hl 4 rfl) ?_
                    refine lv_aload hx hb dX5_copy_101 (lv_at hl 0 rfl) ?_
                    refine g_get F inG2 hw 8 rfl rfl 0 (by decide) t_172 (fun _ h9 => h9) rfl dX5_copy_103 ?_
                    refine lv_iload hx hb dX5_copy_106 (lv_at hl 6 rfl) ?_
                    refine lv_iload hx hb dX5_copy_108 (lv_at hl 7 rfl) ?_
                    obtain ⟨k20, h36⟩ := ob0 h35
                    clear h35
                    refine va_copyl (ty := .long) hx hb (F.2.2.2.2.1.trans hl.1.symm) F.2.2.2.2.2.1 (F.2.2.2.2.2.2.1 _ t_723) (F.2.2.2.2.2.2.1 _ t_311) (F.2.2.2.2.2.2.1 _ t_310) (F.2.2.2.2.2.2.1 _ t_44) F.2.2.2.2.2.2.2.1.1 hw.1 hw.2.1 hw.2.2 3 9 1 1 rfl rfl rfl rfl rfl (cpo_h k20).1 (cpo_h k20).2.1 (cpo_h k20).2.2.1 (cpo_h k20).2.2.2.1 (cpo_h k20).2.2.2.2 (fun _ _ => rfl) (by decide) (by decide +kernel) dX5_copy_110 (fun H locs hP hD hS => ?_)
                    have hw : Wd d A s.heap (List.flatten [wX cy xx0 nw0 ps0 kp0 kq0 tr0 tp0 hs0 xx_isKept, wH cy hs0 hs_r0 hs_r1 (va_up hs_items 3 (va_cpy (hs_items 0) (hs_items 3) (Int32.toNatClampNeg i2) (Int32.toNatClampNeg i4) (Int32.toNatClampNeg i5))) hs_lane hs_size]) H locs := ⟨hP, hD, hS⟩
                    refine lv_iload hx hb dX5_copy_113 (lv_at hl 7 rfl) ?_
                    obtain ⟨rfl, rfl⟩ := inj2 h36
                    exact hret _ _ _ _ hw dX5_copy_115
                  · rw [if_pos c19] at h35
                    refine lv_bipush (v := (-13)) hx hb dX5_copy_92 (by decide) ?_
                    obtain ⟨rfl, rfl⟩ := inj2 h35
                    exact hret _ _ _ _ hw dX5_copy_94
              · rw [if_neg c13] at h24
                refine lv_bipush (v := (-12)) hx hb dX5_copy_66 (by decide) ?_
                obtain ⟨rfl, rfl⟩ := inj2 h24
                exact hret _ _ _ _ hw dX5_copy_68
            · rw [if_pos c12] at h24
              refine lv_bipush (v := (-11)) hx hb dX5_copy_50 (by decide) ?_
              obtain ⟨rfl, rfl⟩ := inj2 h24
              exact hret _ _ _ _ hw dX5_copy_52
      · refine g_aald F 4 rfl hw 1 rfl k8 dX5_copy_21 ?_
        refine lv_astore (lv' := [(6, .ref (hs_r0 1)), (0, .ref xx0), (1, .int i1), (2, .int i2), (3, .int i3), (4, .int i4), (5, .int i5)]) hx hb dX5_copy_22 hl (by decide) rfl (fun ls hl => ?_)
        refine lv_aload_n hx hb dX5_copy_24 rfl (lv_at hl 1 rfl) ?_
        refine g_get F inG5 hw 0 rfl rfl 7 (by decide) t_192 (fun _ h9 => h9) rfl dX5_copy_25 ?_
        refine lv_iload_n hx hb dX5_copy_28 rfl (lv_at hl 4 rfl) ?_
        obtain ⟨j9, k10, h37⟩ := ob1 h23
        clear h23
        rcases ix4 k10 with rfl | rfl | rfl | rfl
        · refine g_aald F 4 rfl hw 1 rfl k10 dX5_copy_29 ?_
          refine lv_astore (lv' := [(7, .ref (hs_r0 0)), (6, .ref (hs_r0 1)), (0, .ref xx0), (1, .int i1), (2, .int i2), (3, .int i3), (4, .int i4), (5, .int i5)]) hx hb dX5_copy_30 hl (by decide) rfl (fun ls hl => ?_)
          refine lv_aload hx hb dX5_copy_32 (lv_at hl 1 rfl) ?_
          refine g_get F inG2 hw 4 rfl rfl 1 (by decide) t_174 (fun _ h9 => h9) rfl dX5_copy_34 ?_
          refine lv_iconst (v := (-1)) hx hb dX5_copy_37 (by decide) ?_
          refine lv_icmp_eq (tgt := 50) hx hb dX5_copy_38 (by decide) (fun c11 => ?_) (fun c11 => ?_)
          · rw [if_pos c11] at h37
            refine lv_bipush (v := (-11)) hx hb dX5_copy_50 (by decide) ?_
            obtain ⟨rfl, rfl⟩ := inj2 h37
            exact hret _ _ _ _ hw dX5_copy_52
          · rw [if_neg c11] at h37
            refine lv_aload hx hb dX5_copy_41 (lv_at hl 0 rfl) ?_
            refine g_get F inG2 hw 2 rfl rfl 1 (by decide) t_174 (fun _ h9 => h9) rfl dX5_copy_43 ?_
            refine lv_iconst (v := (-1)) hx hb dX5_copy_46 (by decide) ?_
            refine lv_icmp_ne (tgt := 53) hx hb dX5_copy_47 (by decide) (fun c12 => ?_) (fun c12 => ?_)
            · rw [if_neg c12] at h37
              refine lv_aload hx hb dX5_copy_53 (lv_at hl 1 rfl) ?_
              refine g_get F inG2 hw 4 rfl rfl 1 (by decide) t_174 (fun _ h9 => h9) rfl dX5_copy_55 ?_
              refine lv_aload hx hb dX5_copy_58 (lv_at hl 0 rfl) ?_
              refine g_get F inG2 hw 2 rfl rfl 1 (by decide) t_174 (fun _ h9 => h9) rfl dX5_copy_60 ?_
              refine lv_icmp_eq (tgt := 69) hx hb dX5_copy_63 (by decide) (fun c13 => ?_) (fun c13 => ?_)
              · rw [if_pos c13] at h37
                refine lv_aload hx hb dX5_copy_69 (lv_at hl 1 rfl) ?_
                refine lv_iload_n hx hb dX5_copy_71 rfl (lv_at hl 4 rfl) ?_
                refine lv_iload hx hb dX5_copy_72 (lv_at hl 7 rfl) ?_
                obtain ⟨r14, k15, h38⟩ := ob1 h37
                clear h37
                refine g_vi F (cX2_hasRoom_ok l d cy (hs_r0 1) (hs_r1 1) (hs_items 1) (hs_lane 1) (hs_size 1) i2 i5 r14 k15) cal_X2_hasRoom t_722 rfl ⟨by decide, by decide⟩ hw (w' := List.flatten [wX cy xx0 nw0 ps0 kp0 kq0 tr0 tp0 hs0 xx_isKept, wH cy hs0 hs_r0 hs_r1 hs_items hs_lane hs_size]) (SCut.cut (SCut.one (SCut.skip (SCut.take cutH1 SCut.none)))) 0 2 rfl rfl hl.1 (Nat.le_of_ble_eq_true rfl) rfl dX5_copy_74 (fun H locs hw => ?_)
                refine lv_if_eq (tgt := 92) hx hb dX5_copy_77 (by decide) (fun c16 => ?_) (fun c16 => ?_)
                · rw [if_pos c16] at h38
                  refine lv_bipush (v := (-13)) hx hb dX5_copy_92 (by decide) ?_
                  obtain ⟨rfl, rfl⟩ := inj2 h38
                  exact hret _ _ _ _ hw dX5_copy_94
                · rw [if_neg c16] at h38
                  refine lv_aload hx hb dX5_copy_80 (lv_at hl 0 rfl) ?_
                  refine lv_iload hx hb dX5_copy_82 (lv_at hl 6 rfl) ?_
                  refine lv_iload hx hb dX5_copy_84 (lv_at hl 7 rfl) ?_
                  obtain ⟨r17, k18, h39⟩ := ob1 h38
                  clear h38
                  refine g_vi F (cX2_hasRoom_ok l d cy (hs_r0 0) (hs_r1 0) (hs_items 0) (hs_lane 0) (hs_size 0) i4 i5 r17 k18) cal_X2_hasRoom t_722 rfl ⟨by decide, by decide⟩ hw (w' := List.flatten [wX cy xx0 nw0 ps0 kp0 kq0 tr0 tp0 hs0 xx_isKept, wH cy hs0 hs_r0 hs_r1 hs_items hs_lane hs_size]) (SCut.cut (SCut.one (SCut.skip (SCut.take cutH0 SCut.none)))) 0 2 rfl rfl hl.1 (Nat.le_of_ble_eq_true rfl) rfl dX5_copy_86 (fun H locs hw => ?_)
                  refine lv_if_ne (tgt := 95) hx hb dX5_copy_89 (by decide) (fun c19 => ?_) (fun c19 => ?_)
                  · rw [if_neg c19] at h39
                    refine lv_aload hx hb dX5_copy_95 (lv_at hl 1 rfl) ?_
                    refine g_get F inG2 hw 4 rfl rfl 0 (by decide) t_172 (fun _ h9 => h9) rfl dX5_copy_97 ?_
                    refine lv_iload_n hx hb dX5_copy_100 rfl (lv_at hl 4 rfl) ?_
                    refine lv_aload hx hb dX5_copy_101 (lv_at hl 0 rfl) ?_
                    refine g_get F inG2 hw 2 rfl rfl 0 (by decide) t_172 (fun _ h9 => h9) rfl dX5_copy_103 ?_
                    refine lv_iload hx hb dX5_copy_106 (lv_at hl 6 rfl) ?_
                    refine lv_iload hx hb dX5_copy_108 (lv_at hl 7 rfl) ?_
                    obtain ⟨k20, h40⟩ := ob0 h39
                    clear h39
                    refine va_copyl (ty := .long) hx hb (F.2.2.2.2.1.trans hl.1.symm) F.2.2.2.2.2.1 (F.2.2.2.2.2.2.1 _ t_723) (F.2.2.2.2.2.2.1 _ t_311) (F.2.2.2.2.2.2.1 _ t_310) (F.2.2.2.2.2.2.1 _ t_44) F.2.2.2.2.2.2.2.1.1 hw.1 hw.2.1 hw.2.2 5 3 1 1 rfl rfl rfl rfl rfl (cpo_h k20).1 (cpo_h k20).2.1 (cpo_h k20).2.2.1 (cpo_h k20).2.2.2.1 (cpo_h k20).2.2.2.2 (fun _ _ => rfl) (by decide) (by decide +kernel) dX5_copy_110 (fun H locs hP hD hS => ?_)
                    have hw : Wd d A s.heap (List.flatten [wX cy xx0 nw0 ps0 kp0 kq0 tr0 tp0 hs0 xx_isKept, wH cy hs0 hs_r0 hs_r1 (va_up hs_items 0 (va_cpy (hs_items 1) (hs_items 0) (Int32.toNatClampNeg i2) (Int32.toNatClampNeg i4) (Int32.toNatClampNeg i5))) hs_lane hs_size]) H locs := ⟨hP, hD, hS⟩
                    refine lv_iload hx hb dX5_copy_113 (lv_at hl 7 rfl) ?_
                    obtain ⟨rfl, rfl⟩ := inj2 h40
                    exact hret _ _ _ _ hw dX5_copy_115
                  · rw [if_pos c19] at h39
                    refine lv_bipush (v := (-13)) hx hb dX5_copy_92 (by decide) ?_
                    obtain ⟨rfl, rfl⟩ := inj2 h39
                    exact hret _ _ _ _ hw dX5_copy_94
              · rw [if_neg c13] at h37
                refine lv_bipush (v := (-12)) hx hb dX5_copy_66 (by decide) ?_
                obtain ⟨rfl, rfl⟩ := inj2 h37
                exact hret _ _ _ _ hw dX5_copy_68
            · rw [if_pos c12] at h37
              refine lv_bipush (v := (-11)) hx hb dX5_copy_50 (by decide) ?_
              obtain ⟨rfl, rfl⟩ := inj2 h37
              exact hret _ _ _ _ hw dX5_copy_52
        · refine g_aald F 4 rfl hw 1 rfl k10 dX5_copy_29 ?_
          refine lv_astore (lv' := [(7, .ref (hs_r0 1)), (6, .ref (hs_r0 1)), (0, .ref xx0), (1, .int i1), (2, .int i2), (3, .int i3), (4, .int i4), (5, .int i5)]) hx hb dX5_copy_30 hl (by decide) rfl (fun ls hl => ?_)
          refine lv_aload hx hb dX5_copy_32 (lv_at hl 1 rfl) ?_
          refine g_get F inG2 hw 4 rfl rfl 1 (by decide) t_174 (fun _ h9 => h9) rfl dX5_copy_34 ?_
          refine lv_iconst (v := (-1)) hx hb dX5_copy_37 (by decide) ?_
          refine lv_icmp_eq (tgt := 50) hx hb dX5_copy_38 (by decide) (fun c11 => ?_) (fun c11 => ?_)
          · rw [if_pos c11] at h37
            refine lv_bipush (v := (-11)) hx hb dX5_copy_50 (by decide) ?_
            obtain ⟨rfl, rfl⟩ := inj2 h37
            exact hret _ _ _ _ hw dX5_copy_52
          · rw [if_neg c11] at h37
            refine lv_aload hx hb dX5_copy_41 (lv_at hl 0 rfl) ?_
            refine g_get F inG2 hw 4 rfl rfl 1 (by decide) t_174 (fun _ h9 => h9) rfl dX5_copy_43 ?_
            refine lv_iconst (v := (-1)) hx hb dX5_copy_46 (by decide) ?_
            refine lv_icmp_ne (tgt := 53) hx hb dX5_copy_47 (by decide) (fun c12 => ?_) (fun c12 => ?_)
            · rw [if_neg c12] at h37
              refine lv_aload hx hb dX5_copy_53 (lv_at hl 1 rfl) ?_
              refine g_get F inG2 hw 4 rfl rfl 1 (by decide) t_174 (fun _ h9 => h9) rfl dX5_copy_55 ?_
              refine lv_aload hx hb dX5_copy_58 (lv_at hl 0 rfl) ?_
              refine g_get F inG2 hw 4 rfl rfl 1 (by decide) t_174 (fun _ h9 => h9) rfl dX5_copy_60 ?_
              refine lv_icmp_eq (tgt := 69) hx hb dX5_copy_63 (by decide) (fun c13 => ?_) (fun c13 => ?_)
              · rw [if_pos c13] at h37
                refine lv_aload hx hb dX5_copy_69 (lv_at hl 1 rfl) ?_
                refine lv_iload_n hx hb dX5_copy_71 rfl (lv_at hl 4 rfl) ?_
                refine lv_iload hx hb dX5_copy_72 (lv_at hl 7 rfl) ?_
                obtain ⟨r14, k15, h41⟩ := ob1 h37
                clear h37
                refine g_vi F (cX2_hasRoom_ok l d cy (hs_r0 1) (hs_r1 1) (hs_items 1) (hs_lane 1) (hs_size 1) i2 i5 r14 k15) cal_X2_hasRoom t_722 rfl ⟨by decide, by decide⟩ hw (w' := List.flatten [wX cy xx0 nw0 ps0 kp0 kq0 tr0 tp0 hs0 xx_isKept, wH cy hs0 hs_r0 hs_r1 hs_items hs_lane hs_size]) (SCut.cut (SCut.one (SCut.skip (SCut.take cutH1 SCut.none)))) 0 2 rfl rfl hl.1 (Nat.le_of_ble_eq_true rfl) rfl dX5_copy_74 (fun H locs hw => ?_)
                refine lv_if_eq (tgt := 92) hx hb dX5_copy_77 (by decide) (fun c16 => ?_) (fun c16 => ?_)
                · rw [if_pos c16] at h41
                  refine lv_bipush (v := (-13)) hx hb dX5_copy_92 (by decide) ?_
                  obtain ⟨rfl, rfl⟩ := inj2 h41
                  exact hret _ _ _ _ hw dX5_copy_94
                · rw [if_neg c16] at h41
                  refine lv_aload hx hb dX5_copy_80 (lv_at hl 0 rfl) ?_
                  refine lv_iload hx hb dX5_copy_82 (lv_at hl 6 rfl) ?_
                  refine lv_iload hx hb dX5_copy_84 (lv_at hl 7 rfl) ?_
                  obtain ⟨r17, k18, h42⟩ := ob1 h41
                  clear h41
                  refine g_vi F (cX2_hasRoom_ok l d cy (hs_r0 1) (hs_r1 1) (hs_items 1) (hs_lane 1) (hs_size 1) i4 i5 r17 k18) cal_X2_hasRoom t_722 rfl ⟨by decide, by decide⟩ hw (w' := List.flatten [wX cy xx0 nw0 ps0 kp0 kq0 tr0 tp0 hs0 xx_isKept, wH cy hs0 hs_r0 hs_r1 hs_items hs_lane hs_size]) (SCut.cut (SCut.one (SCut.skip (SCut.take cutH1 SCut.none)))) 0 2 rfl rfl hl.1 (Nat.le_of_ble_eq_true rfl) rfl dX5_copy_86 (fun H locs hw => ?_)
                  refine lv_if_ne (tgt := 95) hx hb dX5_copy_89 (by decide) (fun c19 => ?_) (fun c19 => ?_)
                  · rw [if_neg c19] at h42
                    refine lv_aload hx hb dX5_copy_95 (lv_at hl 1 rfl) ?_
                    refine g_get F inG2 hw 4 rfl rfl 0 (by decide) t_172 (fun _ h9 => h9) rfl dX5_copy_97 ?_
                    refine lv_iload_n hx hb dX5_copy_100 rfl (lv_at hl 4 rfl) ?_
                    refine lv_aload hx hb dX5_copy_101 (lv_at hl 0 rfl) ?_
                    refine g_get F inG2 hw 4 rfl rfl 0 (by decide) t_172 (fun _ h9 => h9) rfl dX5_copy_103 ?_
                    refine lv_iload hx hb dX5_copy_106 (lv_at hl 6 rfl) ?_
                    refine lv_iload hx hb dX5_copy_108 (lv_at hl 7 rfl) ?_
                    obtain ⟨k20, h43⟩ := ob0 h42
                    clear h42
                    refine va_copyl (ty := .long) hx hb (F.2.2.2.2.1.trans hl.1.symm) F.2.2.2.2.2.1 (F.2.2.2.2.2.2.1 _ t_723) (F.2.2.2.2.2.2.1 _ t_311) (F.2.2.2.2.2.2.1 _ t_310) (F.2.2.2.2.2.2.1 _ t_44) F.2.2.2.2.2.2.2.1.1 hw.1 hw.2.1 hw.2.2 5 5 1 1 rfl rfl rfl rfl rfl (cpo_h k20).1 (cpo_h k20).2.1 (cpo_h k20).2.2.1 (cpo_h k20).2.2.2.1 (cpo_h k20).2.2.2.2 (fun _ _ => rfl) (by decide) (by decide +kernel) dX5_copy_110 (fun H locs hP hD hS => ?_)
                    have hw : Wd d A s.heap (List.flatten [wX cy xx0 nw0 ps0 kp0 kq0 tr0 tp0 hs0 xx_isKept, wH cy hs0 hs_r0 hs_r1 (va_up hs_items 1 (va_cpy (hs_items 1) (hs_items 1) (Int32.toNatClampNeg i2) (Int32.toNatClampNeg i4) (Int32.toNatClampNeg i5))) hs_lane hs_size]) H locs := ⟨hP, hD, hS⟩
                    refine lv_iload hx hb dX5_copy_113 (lv_at hl 7 rfl) ?_
                    obtain ⟨rfl, rfl⟩ := inj2 h43
                    exact hret _ _ _ _ hw dX5_copy_115
                  · rw [if_pos c19] at h42
                    refine lv_bipush (v := (-13)) hx hb dX5_copy_92 (by decide) ?_
                    obtain ⟨rfl, rfl⟩ := inj2 h42
                    exact hret _ _ _ _ hw dX5_copy_94
              · rw [if_neg c13] at h37
                refine lv_bipush (v := (-12)) hx hb dX5_copy_66 (by decide) ?_
                obtain ⟨rfl, rfl⟩ := inj2 h37
                exact hret _ _ _ _ hw dX5_copy_68
            · rw [if_pos c12] at h37
              refine lv_bipush (v := (-11)) hx hb dX5_copy_50 (by decide) ?_
              obtain ⟨rfl, rfl⟩ := inj2 h37
              exact hret _ _ _ _ hw dX5_copy_52
        · refine g_aald F 4 rfl hw 1 rfl k10 dX5_copy_29 ?_
          refine lv_astore (lv' := [(7, .ref (hs_r0 2)), (6, .ref (hs_r0 1)), (0, .ref xx0), (1, .int i1), (2, .int i2), (3, .int i3), (4, .int i4), (5, .int i5)]) hx hb dX5_copy_30 hl (by decide) rfl (fun ls hl => ?_)
          refine lv_aload hx hb dX5_copy_32 (lv_at hl 1 rfl) ?_
          refine g_get F inG2 hw 4 rfl rfl 1 (by decide) t_174 (fun _ h9 => h9) rfl dX5_copy_34 ?_
          refine lv_iconst (v := (-1)) hx hb dX5_copy_37 (by decide) ?_
          refine lv_icmp_eq (tgt := 50) hx hb dX5_copy_38 (by decide) (fun c11 => ?_) (fun c11 => ?_)
          · rw [if_pos c11] at h37
            refine lv_bipush (v := (-11)) hx hb dX5_copy_50 (by decide) ?_
            obtain ⟨rfl, rfl⟩ := inj2 h37
            exact hret _ _ _ _ hw dX5_copy_52
          · rw [if_neg c11] at h37
            refine lv_aload hx hb dX5_copy_41 (lv_at hl 0 rfl) ?_
            refine g_get F inG2 hw 6 rfl rfl 1 (by decide) t_174 (fun _ h9 => h9) rfl dX5_copy_43 ?_
            refine lv_iconst (v := (-1)) hx hb dX5_copy_46 (by decide) ?_
            refine lv_icmp_ne (tgt := 53) hx hb dX5_copy_47 (by decide) (fun c12 => ?_) (fun c12 => ?_)
            · rw [if_neg c12] at h37
              refine lv_aload hx hb dX5_copy_53 (lv_at hl 1 rfl) ?_
              refine g_get F inG2 hw 4 rfl rfl 1 (by decide) t_174 (fun _ h9 => h9) rfl dX5_copy_55 ?_
              refine lv_aload hx hb dX5_copy_58 (lv_at hl 0 rfl) ?_
              refine g_get F inG2 hw 6 rfl rfl 1 (by decide) t_174 (fun _ h9 => h9) rfl dX5_copy_60 ?_
              refine lv_icmp_eq (tgt := 69) hx hb dX5_copy_63 (by decide) (fun c13 => ?_) (fun c13 => ?_)
              · rw [if_pos c13] at h37
                refine lv_aload hx hb dX5_copy_69 (lv_at hl 1 rfl) ?_
                refine lv_iload_n hx hb dX5_copy_71 rfl (lv_at hl 4 rfl) ?_
                refine lv_iload hx hb dX5_copy_72 (lv_at hl 7 rfl) ?_
                obtain ⟨r14, k15, h44⟩ := ob1 h37
                clear h37
                refine g_vi F (cX2_hasRoom_ok l d cy (hs_r0 1) (hs_r1 1) (hs_items 1) (hs_lane 1) (hs_size 1) i2 i5 r14 k15) cal_X2_hasRoom t_722 rfl ⟨by decide, by decide⟩ hw (w' := List.flatten [wX cy xx0 nw0 ps0 kp0 kq0 tr0 tp0 hs0 xx_isKept, wH cy hs0 hs_r0 hs_r1 hs_items hs_lane hs_size]) (SCut.cut (SCut.one (SCut.skip (SCut.take cutH1 SCut.none)))) 0 2 rfl rfl hl.1 (Nat.le_of_ble_eq_true rfl) rfl dX5_copy_74 (fun H locs hw => ?_)
                refine lv_if_eq (tgt := 92) hx hb dX5_copy_77 (by decide) (fun c16 => ?_) (fun c16 => ?_)
                · rw [if_pos c16] at h44
                  refine lv_bipush (v := (-13)) hx hb dX5_copy_92 (by decide) ?_
                  obtain ⟨rfl, rfl⟩ := inj2 h44
                  exact hret _ _ _ _ hw dX5_copy_94
                · rw [if_neg c16] at h44
                  refine lv_aload hx hb dX5_copy_80 (lv_at hl 0 rfl) ?_
                  refine lv_iload hx hb dX5_copy_82 (lv_at hl 6 rfl) ?_
                  refine lv_iload hx hb dX5_copy_84 (lv_at hl 7 rfl) ?_
                  obtain ⟨r17, k18, h45⟩ := ob1 h44
                  clear h44
                  refine g_vi F (cX2_hasRoom_ok l d cy (hs_r0 2) (hs_r1 2) (hs_items 2) (hs_lane 2) (hs_size 2) i4 i5 r17 k18) cal_X2_hasRoom t_722 rfl ⟨by decide, by decide⟩ hw (w' := List.flatten [wX cy xx0 nw0 ps0 kp0 kq0 tr0 tp0 hs0 xx_isKept, wH cy hs0 hs_r0 hs_r1 hs_items hs_lane hs_size]) (SCut.cut (SCut.one (SCut.skip (SCut.take cutH2 SCut.none)))) 0 2 rfl rfl hl.1 (Nat.le_of_ble_eq_true rfl) rfl dX5_copy_86 (fun H locs hw => ?_)
                  refine lv_if_ne (tgt := 95) hx hb dX5_copy_89 (by decide) (fun c19 => ?_) (fun c19 => ?_)
                  · rw [if_neg c19] at h45
                    refine lv_aload hx hb dX5_copy_95 (lv_at hl 1 rfl) ?_
                    refine g_get F inG2 hw 4 rfl rfl 0 (by decide) t_172 (fun _ h9 => h9) rfl dX5_copy_97 ?_
                    refine lv_iload_n hx hb dX5_copy_100 rfl (lv_at hl 4 rfl) ?_
                    refine lv_aload hx hb dX5_copy_101 (lv_at hl 0 rfl) ?_
                    refine g_get F inG2 hw 6 rfl rfl 0 (by decide) t_172 (fun _ h9 => h9) rfl dX5_copy_103 ?_
                    refine lv_iload hx hb dX5_copy_106 (lv_at hl 6 rfl) ?_
                    refine lv_iload hx hb dX5_copy_108 (lv_at hl 7 rfl) ?_
                    obtain ⟨k20, h46⟩ := ob0 h45
                    clear h45
                    refine va_copyl (ty := .long) hx hb (F.2.2.2.2.1.trans hl.1.symm) F.2.2.2.2.2.1 (F.2.2.2.2.2.2.1 _ t_723) (F.2.2.2.2.2.2.1 _ t_311) (F.2.2.2.2.2.2.1 _ t_310) (F.2.2.2.2.2.2.1 _ t_44) F.2.2.2.2.2.2.2.1.1 hw.1 hw.2.1 hw.2.2 5 7 1 1 rfl rfl rfl rfl rfl (cpo_h k20).1 (cpo_h k20).2.1 (cpo_h k20).2.2.1 (cpo_h k20).2.2.2.1 (cpo_h k20).2.2.2.2 (fun _ _ => rfl) (by decide) (by decide +kernel) dX5_copy_110 (fun H locs hP hD hS => ?_)
                    have hw : Wd d A s.heap (List.flatten [wX cy xx0 nw0 ps0 kp0 kq0 tr0 tp0 hs0 xx_isKept, wH cy hs0 hs_r0 hs_r1 (va_up hs_items 2 (va_cpy (hs_items 1) (hs_items 2) (Int32.toNatClampNeg i2) (Int32.toNatClampNeg i4) (Int32.toNatClampNeg i5))) hs_lane hs_size]) H locs := ⟨hP, hD, hS⟩
                    refine lv_iload hx hb dX5_copy_113 (lv_at hl 7 rfl) ?_
                    obtain ⟨rfl, rfl⟩ := inj2 h46
                    exact hret _ _ _ _ hw dX5_copy_115
                  · rw [if_pos c19] at h45
                    refine lv_bipush (v := (-13)) hx hb dX5_copy_92 (by decide) ?_
                    obtain ⟨rfl, rfl⟩ := inj2 h45
                    exact hret _ _ _ _ hw dX5_copy_94
              · rw [if_neg c13] at h37
                refine lv_bipush (v := (-12)) hx hb dX5_copy_66 (by decide) ?_
                obtain ⟨rfl, rfl⟩ := inj2 h37
                exact hret _ _ _ _ hw dX5_copy_68
            · rw [if_pos c12] at h37
              refine lv_bipush (v := (-11)) hx hb dX5_copy_50 (by decide) ?_
              obtain ⟨rfl, rfl⟩ := inj2 h37
              exact hret _ _ _ _ hw dX5_copy_52
        · refine g_aald F 4 rfl hw 1 rfl k10 dX5_copy_29 ?_
          refine lv_astore (lv' := [(7, .ref (hs_r0 3)), (6, .ref (hs_r0 1)), (0, .ref xx0), (1, .int i1), (2, .int i2), (3, .int i3), (4, .int i4), (5, .int i5)]) hx hb dX5_copy_30 hl (by decide) rfl (fun ls hl => ?_)
          refine lv_aload hx hb dX5_copy_32 (lv_at hl 1 rfl) ?_
          refine g_get F inG2 hw 4 rfl rfl 1 (by decide) t_174 (fun _ h9 => h9) rfl dX5_copy_34 ?_
          refine lv_iconst (v := (-1)) hx hb dX5_copy_37 (by decide) ?_
          refine lv_icmp_eq (tgt := 50) hx hb dX5_copy_38 (by decide) (fun c11 => ?_) (fun c11 => ?_)
          · rw [if_pos c11] at h37
            refine lv_bipush (v := (-11)) hx hb dX5_copy_50 (by decide) ?_
            obtain ⟨rfl, rfl⟩ := inj2 h37
            exact hret _ _ _ _ hw dX5_copy_52
          · rw [if_neg c11] at h37
            refine lv_aload hx hb dX5_copy_41 (lv_at hl 0 rfl) ?_
            refine g_get F inG2 hw 8 rfl rfl 1 (by decide) t_174 (fun _ h9 => h9) rfl dX5_copy_43 ?_
            refine lv_iconst (v := (-1)) hx hb dX5_copy_46 (by decide) ?_
            refine lv_icmp_ne (tgt := 53) hx hb dX5_copy_47 (by decide) (fun c12 => ?_) (fun c12 => ?_)
            · rw [if_neg c12] at h37
              refine lv_aload hx hb dX5_copy_53 (lv_at hl 1 rfl) ?_
              refine g_get F inG2 hw 4 rfl rfl 1 (by decide) t_174 (fun _ h9 => h9) rfl dX5_copy_55 ?_
              refine lv_aload hx hb dX5_copy_58 (lv_at hl 0 rfl) ?_
              refine g_get F inG2 hw 8 rfl rfl 1 (by decide) t_174 (fun _ h9 => h9) rfl dX5_copy_60 ?_
              refine lv_icmp_eq (tgt := 69) hx hb dX5_copy_63 (by decide) (fun c13 => ?_) (fun c13 => ?_)
              · rw [if_pos c13] at h37
                refine lv_aload hx hb dX5_copy_69 (lv_at hl 1 rfl) ?_
                refine lv_iload_n hx hb dX5_copy_71 rfl (lv_at hl 4 rfl) ?_
                refine lv_iload hx hb dX5_copy_72 (lv_at hl 7 rfl) ?_
                obtain ⟨r14, k15, h47⟩ := ob1 h37
                clear h37
                refine g_vi F (cX2_hasRoom_ok l d cy (hs_r0 1) (hs_r1 1) (hs_items 1) (hs_lane 1) (hs_size 1) i2 i5 r14 k15) cal_X2_hasRoom t_722 rfl ⟨by decide, by decide⟩ hw (w' := List.flatten [wX cy xx0 nw0 ps0 kp0 kq0 tr0 tp0 hs0 xx_isKept, wH cy hs0 hs_r0 hs_r1 hs_items hs_lane hs_size]) (SCut.cut (SCut.one (SCut.skip (SCut.take cutH1 SCut.none)))) 0 2 rfl rfl hl.1 (Nat.le_of_ble_eq_true rfl) rfl dX5_copy_74 (fun H locs hw => ?_)
                refine lv_if_eq (tgt := 92) hx hb dX5_copy_77 (by decide) (fun c16 => ?_) (fun c16 => ?_)
                · rw [if_pos c16] at h47
                  refine lv_bipush (v := (-13)) hx hb dX5_copy_92 (by decide) ?_
                  obtain ⟨rfl, rfl⟩ := inj2 h47
                  exact hret _ _ _ _ hw dX5_copy_94
                · rw [if_neg c16] at h47
                  refine lv_aload hx hb dX5_copy_80 (lv_at hl 0 rfl) ?_
                  refine lv_iload hx hb dX5_copy_82 (lv_at hl 6 rfl) ?_
                  refine lv_iload hx hb dX5_copy_84 (lv_at hl 7 rfl) ?_
                  obtain ⟨r17, k18, h48⟩ := ob1 h47
                  clear h47
                  refine g_vi F (cX2_hasRoom_ok l d cy (hs_r0 3) (hs_r1 3) (hs_items 3) (hs_lane 3) (hs_size 3) i4 i5 r17 k18) cal_X2_hasRoom t_722 rfl ⟨by decide, by decide⟩ hw (w' := List.flatten [wX cy xx0 nw0 ps0 kp0 kq0 tr0 tp0 hs0 xx_isKept, wH cy hs0 hs_r0 hs_r1 hs_items hs_lane hs_size]) (SCut.cut (SCut.one (SCut.skip (SCut.take cutH3 SCut.none)))) 0 2 rfl rfl hl.1 (Nat.le_of_ble_eq_true rfl) rfl dX5_copy_86 (fun H locs hw => ?_)
                  refine lv_if_ne (tgt := 95) hx hb dX5_copy_89 (by decide) (fun c19 => ?_) (fun c19 => ?_)
                  · rw [if_neg c19] at h48
                    refine lv_aload hx hb dX5_copy_95 (lv_at hl 1 rfl) ?_
                    refine g_get F inG2 hw 4 rfl rfl 0 (by decide) t_172 (fun _ h9 => h9) rfl dX5_copy_97 ?_
                    refine lv_iload_n hx hb dX5_copy_100 rfl (lv_at hl 4 rfl) ?_
                    refine lv_aload hx hb dX5_copy_101 (lv_at hl 0 rfl) ?_
                    refine g_get F inG2 hw 8 rfl rfl 0 (by decide) t_172 (fun _ h9 => h9) rfl dX5_copy_103 ?_
                    refine lv_iload hx hb dX5_copy_106 (lv_at hl 6 rfl) ?_
                    refine lv_iload hx hb dX5_copy_108 (lv_at hl 7 rfl) ?_
                    obtain ⟨k20, h49⟩ := ob0 h48
                    clear h48
                    refine va_copyl (ty := .long) hx hb (F.2.2.2.2.1.trans hl.1.symm) F.2.2.2.2.2.1 (F.2.2.2.2.2.2.1 _ t_723) (F.2.2.2.2.2.2.1 _ t_311) (F.2.2.2.2.2.2.1 _ t_310) (F.2.2.2.2.2.2.1 _ t_44) F.2.2.2.2.2.2.2.1.1 hw.1 hw.2.1 hw.2.2 5 9 1 1 rfl rfl rfl rfl rfl (cpo_h k20).1 (cpo_h k20).2.1 (cpo_h k20).2.2.1 (cpo_h k20).2.2.2.1 (cpo_h k20).2.2.2.2 (fun _ _ => rfl) (by decide) (by decide +kernel) dX5_copy_110 (fun H locs hP hD hS => ?_)
                    have hw : Wd d A s.heap (List.flatten [wX cy xx0 nw0 ps0 kp0 kq0 tr0 tp0 hs0 xx_isKept, wH cy hs0 hs_r0 hs_r1 (va_up hs_items 3 (va_cpy (hs_items 1) (hs_items 3) (Int32.toNatClampNeg i2) (Int32.toNatClampNeg i4) (Int32.toNatClampNeg i5))) hs_lane hs_size]) H locs := ⟨hP, hD, hS⟩
                    refine lv_iload hx hb dX5_copy_113 (lv_at hl 7 rfl) ?_
                    obtain ⟨rfl, rfl⟩ := inj2 h49
                    exact hret _ _ _ _ hw dX5_copy_115
                  · rw [if_pos c19] at h48
                    refine lv_bipush (v := (-13)) hx hb dX5_copy_92 (by decide) ?_
                    obtain ⟨rfl, rfl⟩ := inj2 h48
                    exact hret _ _ _ _ hw dX5_copy_94
              · rw [if_neg c13] at h37
                refine lv_bipush (v := (-12)) hx hb dX5_copy_66 (by decide) ?_
                obtain ⟨rfl, rfl⟩ := inj2 h37
                exact hret _ _ _ _ hw dX5_copy_68
            · rw [if_pos c12] at h37
              refine lv_bipush (v := (-11)) hx hb dX5_copy_50 (by decide) ?_
              obtain ⟨rfl, rfl⟩ := inj2 h37
              exact hret _ _ _ _ hw dX5_copy_52
      · refine g_aald F 4 rfl hw 1 rfl k8 dX5_copy_21 ?_
        refine lv_astore (lv' := [(6, .ref (hs_r0 2)), (0, .ref xx0), (1, .int i1), (2, .int i2), (3, .int i3), (4, .int i4), (5, .int i5)]) hx hb dX5_copy_22 hl (by decide) rfl (fun ls hl => ?_)
        refine lv_aload_n hx hb dX5_copy_24 rfl (lv_at hl 1 rfl) ?_
        refine g_get F inG5 hw 0 rfl rfl 7 (by decide) t_192 (fun _ h9 => h9) rfl dX5_copy_25 ?_
        refine lv_iload_n hx hb dX5_copy_28 rfl (lv_at hl 4 rfl) ?_
        obtain ⟨j9, k10, h50⟩ := ob1 h23
        clear h23
        rcases ix4 k10 with rfl | rfl | rfl | rfl
        · refine g_aald F 4 rfl hw 1 rfl k10 dX5_copy_29 ?_
          refine lv_astore (lv' := [(7, .ref (hs_r0 0)), (6, .ref (hs_r0 2)), (0, .ref xx0), (1, .int i1), (2, .int i2), (3, .int i3), (4, .int i4), (5, .int i5)]) hx hb dX5_copy_30 hl (by decide) rfl (fun ls hl => ?_)
          refine lv_aload hx hb dX5_copy_32 (lv_at hl 1 rfl) ?_
          refine g_get F inG2 hw 6 rfl rfl 1 (by decide) t_174 (fun _ h9 => h9) rfl dX5_copy_34 ?_
          refine lv_iconst (v := (-1)) hx hb dX5_copy_37 (by decide) ?_
          refine lv_icmp_eq (tgt := 50) hx hb dX5_copy_38 (by decide) (fun c11 => ?_) (fun c11 => ?_)
          · rw [if_pos c11] at h50
            refine lv_bipush (v := (-11)) hx hb dX5_copy_50 (by decide) ?_
            obtain ⟨rfl, rfl⟩ := inj2 h50
            exact hret _ _ _ _ hw dX5_copy_52
          · rw [if_neg c11] at h50
            refine lv_aload hx hb dX5_copy_41 (lv_at hl 0 rfl) ?_
            refine g_get F inG2 hw 2 rfl rfl 1 (by decide) t_174 (fun _ h9 => h9) rfl dX5_copy_43 ?_
            refine lv_iconst (v := (-1)) hx hb dX5_copy_46 (by decide) ?_
            refine lv_icmp_ne (tgt := 53) hx hb dX5_copy_47 (by decide) (fun c12 => ?_) (fun c12 => ?_)
            · rw [if_neg c12] at h50
              refine lv_aload hx hb dX5_copy_53 (lv_at hl 1 rfl) ?_
              refine g_get F inG2 hw 6 rfl rfl 1 (by decide) t_174 (fun _ h9 => h9) rfl dX5_copy_55 ?_
              refine lv_aload hx hb dX5_copy_58 (lv_at hl 0 rfl) ?_
              refine g_get F inG2 hw 2 rfl rfl 1 (by decide) t_174 (fun _ h9 => h9) rfl dX5_copy_60 ?_
              refine lv_icmp_eq (tgt := 69) hx hb dX5_copy_63 (by decide) (fun c13 => ?_) (fun c13 => ?_)
              · rw [if_pos c13] at h50
                refine lv_aload hx hb dX5_copy_69 (lv_at hl 1 rfl) ?_
                refine lv_iload_n hx hb dX5_copy_71 rfl (lv_at hl 4 rfl) ?_
                refine lv_iload hx hb dX5_copy_72 (lv_at hl 7 rfl) ?_
                obtain ⟨r14, k15, h51⟩ := ob1 h50
                clear h50
                refine g_vi F (cX2_hasRoom_ok l d cy (hs_r0 2) (hs_r1 2) (hs_items 2) (hs_lane 2) (hs_size 2) i2 i5 r14 k15) cal_X2_hasRoom t_722 rfl ⟨by decide, by decide⟩ hw (w' := List.flatten [wX cy xx0 nw0 ps0 kp0 kq0 tr0 tp0 hs0 xx_isKept, wH cy hs0 hs_r0 hs_r1 hs_items hs_lane hs_size]) (SCut.cut (SCut.one (SCut.skip (SCut.take cutH2 SCut.none)))) 0 2 rfl rfl hl.1 (Nat.le_of_ble_eq_true rfl) rfl dX5_copy_74 (fun H locs hw => ?_)
                refine lv_if_eq (tgt := 92) hx hb dX5_copy_77 (by decide) (fun c16 => ?_) (fun c16 => ?_)
                · rw [if_pos c16] at h51
                  refine lv_bipush (v := (-13)) hx hb dX5_copy_92 (by decide) ?_
                  obtain ⟨rfl, rfl⟩ := inj2 h51
                  exact hret _ _ _ _ hw dX5_copy_94
                · rw [if_neg c16] at h51
                  refine lv_aload hx hb dX5_copy_80 (lv_at hl 0 rfl) ?_
                  refine lv_iload hx hb dX5_copy_82 (lv_at hl 6 rfl) ?_
                  refine lv_iload hx hb dX5_copy_84 (lv_at hl 7 rfl) ?_
                  obtain ⟨r17, k18, h52⟩ := ob1 h51
                  clear h51
                  refine g_vi F (cX2_hasRoom_ok l d cy (hs_r0 0) (hs_r1 0) (hs_items 0) (hs_lane 0) (hs_size 0) i4 i5 r17 k18) cal_X2_hasRoom t_722 rfl ⟨by decide, by decide⟩ hw (w' := List.flatten [wX cy xx0 nw0 ps0 kp0 kq0 tr0 tp0 hs0 xx_isKept, wH cy hs0 hs_r0 hs_r1 hs_items hs_lane hs_size]) (SCut.cut (SCut.one (SCut.skip (SCut.take cutH0 SCut.none)))) 0 2 rfl rfl hl.1 (Nat.le_of_ble_eq_true rfl) rfl dX5_copy_86 (fun H locs hw => ?_)
                  refine lv_if_ne (tgt := 95) hx hb dX5_copy_89 (by decide) (fun c19 => ?_) (fun c19 => ?_)
                  · rw [if_neg c19] at h52
                    refine lv_aload hx hb dX5_copy_95 (lv_at hl 1 rfl) ?_
                    refine g_get F inG2 hw 6 rfl rfl 0 (by decide) t_172 (fun _ h9 => h9) rfl dX5_copy_97 ?_
                    refine lv_iload_n hx hb dX5_copy_100 rfl (lv_at hl 4 rfl) ?_
                    refine lv_aload hx hb dX5_copy_101 (lv_at hl 0 rfl) ?_
                    refine g_get F inG2 hw 2 rfl rfl 0 (by decide) t_172 (fun _ h9 => h9) rfl dX5_copy_103 ?_
                    refine lv_iload hx hb dX5_copy_106 (lv_at hl 6 rfl) ?_
                    refine lv_iload hx hb dX5_copy_108 (lv_at hl 7 rfl) ?_
                    obtain ⟨k20, h53⟩ := ob0 h52
                    clear h52
                    refine va_copyl (ty := .long) hx hb (F.2.2.2.2.1.trans hl.1.symm) F.2.2.2.2.2.1 (F.2.2.2.2.2.2.1 _ t_723) (F.2.2.2.2.2.2.1 _ t_311) (F.2.2.2.2.2.2.1 _ t_310) (F.2.2.2.2.2.2.1 _ t_44) F.2.2.2.2.2.2.2.1.1 hw.1 hw.2.1 hw.2.2 7 3 1 1 rfl rfl rfl rfl rfl (cpo_h k20).1 (cpo_h k20).2.1 (cpo_h k20).2.2.1 (cpo_h k20).2.2.2.1 (cpo_h k20).2.2.2.2 (fun _ _ => rfl) (by decide) (by decide +kernel) dX5_copy_110 (fun H locs hP hD hS => ?_)
                    have hw : Wd d A s.heap (List.flatten [wX cy xx0 nw0 ps0 kp0 kq0 tr0 tp0 hs0 xx_isKept, wH cy hs0 hs_r0 hs_r1 (va_up hs_items 0 (va_cpy (hs_items 2) (hs_items 0) (Int32.toNatClampNeg i2) (Int32.toNatClampNeg i4) (Int32.toNatClampNeg i5))) hs_lane hs_size]) H locs := ⟨hP, hD, hS⟩
                    refine lv_iload hx hb dX5_copy_113 (lv_at hl 7 rfl) ?_
                    obtain ⟨rfl, rfl⟩ := inj2 h53
                    exact hret _ _ _ _ hw dX5_copy_115
                  · rw [if_pos c19] at h52
                    refine lv_bipush (v := (-13)) hx hb dX5_copy_92 (by decide) ?_
                    obtain ⟨rfl, rfl⟩ := inj2 h52
                    exact hret _ _ _ _ hw dX5_copy_94
              · rw [if_neg c13] at h50
                refine lv_bipush (v := (-12)) hx hb dX5_copy_66 (by decide) ?_
                obtain ⟨rfl, rfl⟩ := inj2 h50
                exact hret _ _ _ _ hw dX5_copy_68
            · rw [if_pos c12] at h50
              refine lv_bipush (v := (-11)) hx hb dX5_copy_50 (by decide) ?_
              obtain ⟨rfl, rfl⟩ := inj2 h50
              exact hret _ _ _ _ hw dX5_copy_52
        · refine g_aald F 4 rfl hw 1 rfl k10 dX5_copy_29 ?_
          refine lv_astore (lv' := [(7, .ref (hs_r0 1)), (6, .ref (hs_r0 2)), (0, .ref xx0), (1, .int i1), (2, .int i2), (3, .int i3), (4, .int i4), (5, .int i5)]) hx hb dX5_copy_30 hl (by decide) rfl (fun ls hl => ?_)
          refine lv_aload hx hb dX5_copy_32 (lv_at hl 1 rfl) ?_
          refine g_get F inG2 hw 6 rfl rfl 1 (by decide) t_174 (fun _ h9 => h9) rfl dX5_copy_34 ?_
          refine lv_iconst (v := (-1)) hx hb dX5_copy_37 (by decide) ?_
          refine lv_icmp_eq (tgt := 50) hx hb dX5_copy_38 (by decide) (fun c11 => ?_) (fun c11 => ?_)
          · rw [if_pos c11] at h50
            refine lv_bipush (v := (-11)) hx hb dX5_copy_50 (by decide) ?_
            obtain ⟨rfl, rfl⟩ := inj2 h50
            exact hret _ _ _ _ hw dX5_copy_52
          · rw [if_neg c11] at h50
            refine lv_aload hx hb dX5_copy_41 (lv_at hl 0 rfl) ?_
            refine g_get F inG2 hw 4 rfl rfl 1 (by decide) t_174 (fun _ h9 => h9) rfl dX5_copy_43 ?_
            refine lv_iconst (v := (-1)) hx hb dX5_copy_46 (by decide) ?_
            refine lv_icmp_ne (tgt := 53) hx hb dX5_copy_47 (by decide) (fun c12 => ?_) (fun c12 => ?_)
            · rw [if_neg c12] at h50
              refine lv_aload hx hb dX5_copy_53 (lv_at hl 1 rfl) ?_
              refine g_get F inG2 hw 6 rfl rfl 1 (by decide) t_174 (fun _ h9 => h9) rfl dX5_copy_55 ?_
              refine lv_aload hx hb dX5_copy_58 (lv_at hl 0 rfl) ?_
              refine g_get F inG2 hw 4 rfl rfl 1 (by decide) t_174 (fun _ h9 => h9) rfl dX5_copy_60 ?_
              refine lv_icmp_eq (tgt := 69) hx hb dX5_copy_63 (by decide) (fun c13 => ?_) (fun c13 => ?_)
              · rw [if_pos c13] at h50
                refine lv_aload hx hb dX5_copy_69 (lv_at hl 1 rfl) ?_
                refine lv_iload_n hx hb dX5_copy_71 rfl (lv_at hl 4 rfl) ?_
                refine lv_iload hx hb dX5_copy_72 (lv_at hl 7 rfl) ?_
                obtain ⟨r14, k15, h54⟩ := ob1 h50
                clear h50
                refine g_vi F (cX2_hasRoom_ok l d cy (hs_r0 2) (hs_r1 2) (hs_items 2) (hs_lane 2) (hs_size 2) i2 i5 r14 k15) cal_X2_hasRoom t_722 rfl ⟨by decide, by decide⟩ hw (w' := List.flatten [wX cy xx0 nw0 ps0 kp0 kq0 tr0 tp0 hs0 xx_isKept, wH cy hs0 hs_r0 hs_r1 hs_items hs_lane hs_size]) (SCut.cut (SCut.one (SCut.skip (SCut.take cutH2 SCut.none)))) 0 2 rfl rfl hl.1 (Nat.le_of_ble_eq_true rfl) rfl dX5_copy_74 (fun H locs hw => ?_)
                refine lv_if_eq (tgt := 92) hx hb dX5_copy_77 (by decide) (fun c16 => ?_) (fun c16 => ?_)
                · rw [if_pos c16] at h54
                  refine lv_bipush (v := (-13)) hx hb dX5_copy_92 (by decide) ?_
                  obtain ⟨rfl, rfl⟩ := inj2 h54
                  exact hret _ _ _ _ hw dX5_copy_94
                · rw [if_neg c16] at h54
                  refine lv_aload hx hb dX5_copy_80 (lv_at hl 0 rfl) ?_
                  refine lv_iload hx hb dX5_copy_82 (lv_at hl 6 rfl) ?_
                  refine lv_iload hx hb dX5_copy_84 (lv_at hl 7 rfl) ?_
                  obtain ⟨r17, k18, h55⟩ := ob1 h54
                  clear h54
                  refine g_vi F (cX2_hasRoom_ok l d cy (hs_r0 1) (hs_r1 1) (hs_items 1) (hs_lane 1) (hs_size 1) i4 i5 r17 k18) cal_X2_hasRoom t_722 rfl ⟨by decide, by decide⟩ hw (w' := List.flatten [wX cy xx0 nw0 ps0 kp0 kq0 tr0 tp0 hs0 xx_isKept, wH cy hs0 hs_r0 hs_r1 hs_items hs_lane hs_size]) (SCut.cut (SCut.one (SCut.skip (SCut.take cutH1 SCut.none)))) 0 2 rfl rfl hl.1 (Nat.le_of_ble_eq_true rfl) rfl dX5_copy_86 (fun H locs hw => ?_)
                  refine lv_if_ne (tgt := 95) hx hb dX5_copy_89 (by decide) (fun c19 => ?_) (fun c19 => ?_)
                  · rw [if_neg c19] at h55
                    refine lv_aload hx hb dX5_copy_95 (lv_at hl 1 rfl) ?_
                    refine g_get F inG2 hw 6 rfl rfl 0 (by decide) t_172 (fun _ h9 => h9) rfl dX5_copy_97 ?_
                    refine lv_iload_n hx hb dX5_copy_100 rfl (lv_at hl 4 rfl) ?_
                    refine lv_aload hx hb dX5_copy_101 (lv_at hl 0 rfl) ?_
                    refine g_get F inG2 hw 4 rfl rfl 0 (by decide) t_172 (fun _ h9 => h9) rfl dX5_copy_103 ?_
                    refine lv_iload hx hb dX5_copy_106 (lv_at hl 6 rfl) ?_
                    refine lv_iload hx hb dX5_copy_108 (lv_at hl 7 rfl) ?_
                    obtain ⟨k20, h56⟩ := ob0 h55
                    clear h55
                    refine va_copyl (ty := .long) hx hb (F.2.2.2.2.1.trans hl.1.symm) F.2.2.2.2.2.1 (F.2.2.2.2.2.2.1 _ t_723) (F.2.2.2.2.2.2.1 _ t_311) (F.2.2.2.2.2.2.1 _ t_310) (F.2.2.2.2.2.2.1 _ t_44) F.2.2.2.2.2.2.2.1.1 hw.1 hw.2.1 hw.2.2 7 5 1 1 rfl rfl rfl rfl rfl (cpo_h k20).1 (cpo_h k20).2.1 (cpo_h k20).2.2.1 (cpo_h k20).2.2.2.1 (cpo_h k20).2.2.2.2 (fun _ _ => rfl) (by decide) (by decide +kernel) dX5_copy_110 (fun H locs hP hD hS => ?_)
                    have hw : Wd d A s.heap (List.flatten [wX cy xx0 nw0 ps0 kp0 kq0 tr0 tp0 hs0 xx_isKept, wH cy hs0 hs_r0 hs_r1 (va_up hs_items 1 (va_cpy (hs_items 2) (hs_items 1) (Int32.toNatClampNeg i2) (Int32.toNatClampNeg i4) (Int32.toNatClampNeg i5))) hs_lane hs_size]) H locs := ⟨hP, hD, hS⟩
                    refine lv_iload hx hb dX5_copy_113 (lv_at hl 7 rfl) ?_
                    obtain ⟨rfl, rfl⟩ := inj2 h56
                    exact hret _ _ _ _ hw dX5_copy_115
                  · rw [if_pos c19] at h55
                    refine lv_bipush (v := (-13)) hx hb dX5_copy_92 (by decide) ?_
                    obtain ⟨rfl, rfl⟩ := inj2 h55
                    exact hret _ _ _ _ hw dX5_copy_94
              · rw [if_neg c13] at h50
                refine lv_bipush (v := (-12)) hx hb dX5_copy_66 (by decide) ?_
                obtain ⟨rfl, rfl⟩ := inj2 h50
                exact hret _ _ _ _ hw dX5_copy_68
            · rw [if_pos c12] at h50
              refine lv_bipush (v := (-11)) hx hb dX5_copy_50 (by decide) ?_
              obtain ⟨rfl, rfl⟩ := inj2 h50
              exact hret _ _ _ _ hw dX5_copy_52
        · refine g_aald F 4 rfl hw 1 rfl k10 dX5_copy_29 ?_
          refine lv_astore (lv' := [(7, .ref (hs_r0 2)), (6, .ref (hs_r0 2)), (0, .ref xx0), (1, .int i1), (2, .int i2), (3, .int i3), (4, .int i4), (5, .int i5)]) hx hb dX5_copy_30 hl (by decide) rfl (fun ls hl => ?_)
          refine lv_aload hx hb dX5_copy_32 (lv_at hl 1 rfl) ?_
          refine g_get F inG2 hw 6 rfl rfl 1 (by decide) t_174 (fun _ h9 => h9) rfl dX5_copy_34 ?_
          refine lv_iconst (v := (-1)) hx hb dX5_copy_37 (by decide) ?_
          refine lv_icmp_eq (tgt := 50) hx hb dX5_copy_38 (by decide) (fun c11 => ?_) (fun c11 => ?_)
          · rw [if_pos c11] at h50
            refine lv_bipush (v := (-11)) hx hb dX5_copy_50 (by decide) ?_
            obtain ⟨rfl, rfl⟩ := inj2 h50
            exact hret _ _ _ _ hw dX5_copy_52
          · rw [if_neg c11] at h50
            refine lv_aload hx hb dX5_copy_41 (lv_at hl 0 rfl) ?_
            refine g_get F inG2 hw 6 rfl rfl 1 (by decide) t_174 (fun _ h9 => h9) rfl dX5_copy_43 ?_
            refine lv_iconst (v := (-1)) hx hb dX5_copy_46 (by decide) ?_
            refine lv_icmp_ne (tgt := 53) hx hb dX5_copy_47 (by decide) (fun c12 => ?_) (fun c12 => ?_)
            · rw [if_neg c12] at h50
              refine lv_aload hx hb dX5_copy_53 (lv_at hl 1 rfl) ?_
              refine g_get F inG2 hw 6 rfl rfl 1 (by decide) t_174 (fun _ h9 => h9) rfl dX5_copy_55 ?_
              refine lv_aload hx hb dX5_copy_58 (lv_at hl 0 rfl) ?_
              refine g_get F inG2 hw 6 rfl rfl 1 (by decide) t_174 (fun _ h9 => h9) rfl dX5_copy_60 ?_
              refine lv_icmp_eq (tgt := 69) hx hb dX5_copy_63 (by decide) (fun c13 => ?_) (fun c13 => ?_)
              · rw [if_pos c13] at h50
                refine lv_aload hx hb dX5_copy_69 (lv_at hl 1 rfl) ?_
                refine lv_iload_n hx hb dX5_copy_71 rfl (lv_at hl 4 rfl) ?_
                refine lv_iload hx hb dX5_copy_72 (lv_at hl 7 rfl) ?_
                obtain ⟨r14, k15, h57⟩ := ob1 h50
                clear h50
                refine g_vi F (cX2_hasRoom_ok l d cy (hs_r0 2) (hs_r1 2) (hs_items 2) (hs_lane 2) (hs_size 2) i2 i5 r14 k15) cal_X2_hasRoom t_722 rfl ⟨by decide, by decide⟩ hw (w' := List.flatten [wX cy xx0 nw0 ps0 kp0 kq0 tr0 tp0 hs0 xx_isKept, wH cy hs0 hs_r0 hs_r1 hs_items hs_lane hs_size]) (SCut.cut (SCut.one (SCut.skip (SCut.take cutH2 SCut.none)))) 0 2 rfl rfl hl.1 (Nat.le_of_ble_eq_true rfl) rfl dX5_copy_74 (fun H locs hw => ?_)
                refine lv_if_eq (tgt := 92) hx hb dX5_copy_77 (by decide) (fun c16 => ?_) (fun c16 => ?_)
                · rw [if_pos c16] at h57
                  refine lv_bipush (v := (-13)) hx hb dX5_copy_92 (by decide) ?_
                  obtain ⟨rfl, rfl⟩ := inj2 h57
                  exact hret _ _ _ _ hw dX5_copy_94
                · rw [if_neg c16] at h57
                  refine lv_aload hx hb dX5_copy_80 (lv_at hl 0 rfl) ?_
                  refine lv_iload hx hb dX5_copy_82 (lv_at hl 6 rfl) ?_
                  refine lv_iload hx hb dX5_copy_84 (lv_at hl 7 rfl) ?_
                  obtain ⟨r17, k18, h58⟩ := ob1 h57
                  clear h57
                  refine g_vi F (cX2_hasRoom_ok l d cy (hs_r0 2) (hs_r1 2) (hs_items 2) (hs_lane 2) (hs_size 2) i4 i5 r17 k18) cal_X2_hasRoom t_722 rfl ⟨by decide, by decide⟩ hw (w' := List.flatten [wX cy xx0 nw0 ps0 kp0 kq0 tr0 tp0 hs0 xx_isKept, wH cy hs0 hs_r0 hs_r1 hs_items hs_lane hs_size]) (SCut.cut (SCut.one (SCut.skip (SCut.take cutH2 SCut.none)))) 0 2 rfl rfl hl.1 (Nat.le_of_ble_eq_true rfl) rfl dX5_copy_86 (fun H locs hw => ?_)
                  refine lv_if_ne (tgt := 95) hx hb dX5_copy_89 (by decide) (fun c19 => ?_) (fun c19 => ?_)
                  · rw [if_neg c19] at h58
                    refine lv_aload hx hb dX5_copy_95 (lv_at hl 1 rfl) ?_
                    refine g_get F inG2 hw 6 rfl rfl 0 (by decide) t_172 (fun _ h9 => h9) rfl dX5_copy_97 ?_
                    refine lv_iload_n hx hb dX5_copy_100 rfl (lv_at hl 4 rfl) ?_
                    refine lv_aload hx hb dX5_copy_101 (lv_at hl 0 rfl) ?_
                    refine g_get F inG2 hw 6 rfl rfl 0 (by decide) t_172 (fun _ h9 => h9) rfl dX5_copy_103 ?_
                    refine lv_iload hx hb dX5_copy_106 (lv_at hl 6 rfl) ?_
                    refine lv_iload hx hb dX5_copy_108 (lv_at hl 7 rfl) ?_
                    obtain ⟨k20, h59⟩ := ob0 h58
                    clear h58
                    refine va_copyl (ty := .long) hx hb (F.2.2.2.2.1.trans hl.1.symm) F.2.2.2.2.2.1 (F.2.2.2.2.2.2.1 _ t_723) (F.2.2.2.2.2.2.1 _ t_311) (F.2.2.2.2.2.2.1 _ t_310) (F.2.2.2.2.2.2.1 _ t_44) F.2.2.2.2.2.2.2.1.1 hw.1 hw.2.1 hw.2.2 7 7 1 1 rfl rfl rfl rfl rfl (cpo_h k20).1 (cpo_h k20).2.1 (cpo_h k20).2.2.1 (cpo_h k20).2.2.2.1 (cpo_h k20).2.2.2.2 (fun _ _ => rfl) (by decide) (by decide +kernel) dX5_copy_110 (fun H locs hP hD hS => ?_)
                    have hw : Wd d A s.heap (List.flatten [wX cy xx0 nw0 ps0 kp0 kq0 tr0 tp0 hs0 xx_isKept, wH cy hs0 hs_r0 hs_r1 (va_up hs_items 2 (va_cpy (hs_items 2) (hs_items 2) (Int32.toNatClampNeg i2) (Int32.toNatClampNeg i4) (Int32.toNatClampNeg i5))) hs_lane hs_size]) H locs := ⟨hP, hD, hS⟩
                    refine lv_iload hx hb dX5_copy_113 (lv_at hl 7 rfl) ?_
                    obtain ⟨rfl, rfl⟩ := inj2 h59
                    exact hret _ _ _ _ hw dX5_copy_115
                  · rw [if_pos c19] at h58
                    refine lv_bipush (v := (-13)) hx hb dX5_copy_92 (by decide) ?_
                    obtain ⟨rfl, rfl⟩ := inj2 h58
                    exact hret _ _ _ _ hw dX5_copy_94
              · rw [if_neg c13] at h50
                refine lv_bipush (v := (-12)) hx hb dX5_copy_66 (by decide) ?_
                obtain ⟨rfl, rfl⟩ := inj2 h50
                exact hret _ _ _ _ hw dX5_copy_68
            · rw [if_pos c12] at h50
              refine lv_bipush (v := (-11)) hx hb dX5_copy_50 (by decide) ?_
              obtain ⟨rfl, rfl⟩ := inj2 h50
              exact hret _ _ _ _ hw dX5_copy_52
        · refine g_aald F 4 rfl hw 1 rfl k10 dX5_copy_29 ?_
          refine lv_astore (lv' := [(7, .ref (hs_r0 3)), (6, .ref (hs_r0 2)), (0, .ref xx0), (1, .int i1), (2, .int i2), (3, .int i3), (4, .int i4), (5, .int i5)]) hx hb dX5_copy_30 hl (by decide) rfl (fun ls hl => ?_)
          refine lv_aload hx hb dX5_copy_32 (lv_at hl 1 rfl) ?_
          refine g_get F inG2 hw 6 rfl rfl 1 (by decide) t_174 (fun _ h9 => h9) rfl dX5_copy_34 ?_
          refine lv_iconst (v := (-1)) hx hb dX5_copy_37 (by decide) ?_
          refine lv_icmp_eq (tgt := 50) hx hb dX5_copy_38 (by decide) (fun c11 => ?_) (fun c11 => ?_)
          · rw [if_pos c11] at h50
            refine lv_bipush (v := (-11)) hx hb dX5_copy_50 (by decide) ?_
            obtain ⟨rfl, rfl⟩ := inj2 h50
            exact hret _ _ _ _ hw dX5_copy_52
          · rw [if_neg c11] at h50
            refine lv_aload hx hb dX5_copy_41 (lv_at hl 0 rfl) ?_
            refine g_get F inG2 hw 8 rfl rfl 1 (by decide) t_174 (fun _ h9 => h9) rfl dX5_copy_43 ?_
            refine lv_iconst (v := (-1)) hx hb dX5_copy_46 (by decide) ?_
            refine lv_icmp_ne (tgt := 53) hx hb dX5_copy_47 (by decide) (fun c12 => ?_) (fun c12 => ?_)
            · rw [if_neg c12] at h50
              refine lv_aload hx hb dX5_copy_53 (lv_at hl 1 rfl) ?_
              refine g_get F inG2 hw 6 rfl rfl 1 (by decide) t_174 (fun _ h9 => h9) rfl dX5_copy_55 ?_
              refine lv_aload hx hb dX5_copy_58 (lv_at hl 0 rfl) ?_
              refine g_get F inG2 hw 8 rfl rfl 1 (by decide) t_174 (fun _ h9 => h9) rfl dX5_copy_60 ?_
              refine lv_icmp_eq (tgt := 69) hx hb dX5_copy_63 (by decide) (fun c13 => ?_) (fun c13 => ?_)
              · rw [if_pos c13] at h50
                refine lv_aload hx hb dX5_copy_69 (lv_at hl 1 rfl) ?_
                refine lv_iload_n hx hb dX5_copy_71 rfl (lv_at hl 4 rfl) ?_
                refine lv_iload hx hb dX5_copy_72 (lv_at hl 7 rfl) ?_
                obtain ⟨r14, k15, h60⟩ := ob1 h50
                clear h50
                refine g_vi F (cX2_hasRoom_ok l d cy (hs_r0 2) (hs_r1 2) (hs_items 2) (hs_lane 2) (hs_size 2) i2 i5 r14 k15) cal_X2_hasRoom t_722 rfl ⟨by decide, by decide⟩ hw (w' := List.flatten [wX cy xx0 nw0 ps0 kp0 kq0 tr0 tp0 hs0 xx_isKept, wH cy hs0 hs_r0 hs_r1 hs_items hs_lane hs_size]) (SCut.cut (SCut.one (SCut.skip (SCut.take cutH2 SCut.none)))) 0 2 rfl rfl hl.1 (Nat.le_of_ble_eq_true rfl) rfl dX5_copy_74 (fun H locs hw => ?_)
                refine lv_if_eq (tgt := 92) hx hb dX5_copy_77 (by decide) (fun c16 => ?_) (fun c16 => ?_)
                · rw [if_pos c16] at h60
                  refine lv_bipush (v := (-13)) hx hb dX5_copy_92 (by decide) ?_
                  obtain ⟨rfl, rfl⟩ := inj2 h60
                  exact hret _ _ _ _ hw dX5_copy_94
                · rw [if_neg c16] at h60
                  refine lv_aload hx hb dX5_copy_80 (lv_at hl 0 rfl) ?_
                  refine lv_iload hx hb dX5_copy_82 (lv_at hl 6 rfl) ?_
                  refine lv_iload hx hb dX5_copy_84 (lv_at hl 7 rfl) ?_
                  obtain ⟨r17, k18, h61⟩ := ob1 h60
                  clear h60
                  refine g_vi F (cX2_hasRoom_ok l d cy (hs_r0 3) (hs_r1 3) (hs_items 3) (hs_lane 3) (hs_size 3) i4 i5 r17 k18) cal_X2_hasRoom t_722 rfl ⟨by decide, by decide⟩ hw (w' := List.flatten [wX cy xx0 nw0 ps0 kp0 kq0 tr0 tp0 hs0 xx_isKept, wH cy hs0 hs_r0 hs_r1 hs_items hs_lane hs_size]) (SCut.cut (SCut.one (SCut.skip (SCut.take cutH3 SCut.none)))) 0 2 rfl rfl hl.1 (Nat.le_of_ble_eq_true rfl) rfl dX5_copy_86 (fun H locs hw => ?_)
                  refine lv_if_ne (tgt := 95) hx hb dX5_copy_89 (by decide) (fun c19 => ?_) (fun c19 => ?_)
                  · rw [if_neg c19] at h61
                    refine lv_aload hx hb dX5_copy_95 (lv_at hl 1 rfl) ?_
                    refine g_get F inG2 hw 6 rfl rfl 0 (by decide) t_172 (fun _ h9 => h9) rfl dX5_copy_97 ?_
                    refine lv_iload_n hx hb dX5_copy_100 rfl (lv_at hl 4 rfl) ?_
                    refine lv_aload hx hb dX5_copy_101 (lv_at hl 0 rfl) ?_
                    refine g_get F inG2 hw 8 rfl rfl 0 (by decide) t_172 (fun _ h9 => h9) rfl dX5_copy_103 ?_
                    refine lv_iload hx hb dX5_copy_106 (lv_at hl 6 rfl) ?_
                    refine lv_iload hx hb dX5_copy_108 (lv_at hl 7 rfl) ?_
                    obtain ⟨k20, h62⟩ := ob0 h61
                    clear h61
                    refine va_copyl (ty := .long) hx hb (F.2.2.2.2.1.trans hl.1.symm) F.2.2.2.2.2.1 (F.2.2.2.2.2.2.1 _ t_723) (F.2.2.2.2.2.2.1 _ t_311) (F.2.2.2.2.2.2.1 _ t_310) (F.2.2.2.2.2.2.1 _ t_44) F.2.2.2.2.2.2.2.1.1 hw.1 hw.2.1 hw.2.2 7 9 1 1 rfl rfl rfl rfl rfl (cpo_h k20).1 (cpo_h k20).2.1 (cpo_h k20).2.2.1 (cpo_h k20).2.2.2.1 (cpo_h k20).2.2.2.2 (fun _ _ => rfl) (by decide) (by decide +kernel) dX5_copy_110 (fun H locs hP hD hS => ?_)
                    have hw : Wd d A s.heap (List.flatten [wX cy xx0 nw0 ps0 kp0 kq0 tr0 tp0 hs0 xx_isKept, wH cy hs0 hs_r0 hs_r1 (va_up hs_items 3 (va_cpy (hs_items 2) (hs_items 3) (Int32.toNatClampNeg i2) (Int32.toNatClampNeg i4) (Int32.toNatClampNeg i5))) hs_lane hs_size]) H locs := ⟨hP, hD, hS⟩
                    refine lv_iload hx hb dX5_copy_113 (lv_at hl 7 rfl) ?_
                    obtain ⟨rfl, rfl⟩ := inj2 h62
                    exact hret _ _ _ _ hw dX5_copy_115
                  · rw [if_pos c19] at h61
                    refine lv_bipush (v := (-13)) hx hb dX5_copy_92 (by decide) ?_
                    obtain ⟨rfl, rfl⟩ := inj2 h61
                    exact hret _ _ _ _ hw dX5_copy_94
              · rw [if_neg c13] at h50
                refine lv_bipush (v := (-12)) hx hb dX5_copy_66 (by decide) ?_
                obtain ⟨rfl, rfl⟩ := inj2 h50
                exact hret _ _ _ _ hw dX5_copy_68
            · rw [if_pos c12] at h50
              refine lv_bipush (v := (-11)) hx hb dX5_copy_50 (by decide) ?_
              obtain ⟨rfl, rfl⟩ := inj2 h50
              exact hret _ _ _ _ hw dX5_copy_52
      · refine g_aald F 4 rfl hw 1 rfl k8 dX5_copy_21 ?_
        refine lv_astore (lv' := [(6, .ref (hs_r0 3)), (0, .ref xx0), (1, .int i1), (2, .int i2), (3, .int i3), (4, .int i4), (5, .int i5)]) hx hb dX5_copy_22 hl (by decide) rfl (fun ls hl => ?_)
        refine lv_aload_n hx hb dX5_copy_24 rfl (lv_at hl 1 rfl) ?_
        refine g_get F inG5 hw 0 rfl rfl 7 (by decide) t_192 (fun _ h9 => h9) rfl dX5_copy_25 ?_
        refine lv_iload_n hx hb dX5_copy_28 rfl (lv_at hl 4 rfl) ?_
        obtain ⟨j9, k10, h63⟩ := ob1 h23
        clear h23
        rcases ix4 k10 with rfl | rfl | rfl | rfl
        · refine g_aald F 4 rfl hw 1 rfl k10 dX5_copy_29 ?_
          refine lv_astore (lv' := [(7, .ref (hs_r0 0)), (6, .ref (hs_r0 3)), (0, .ref xx0), (1, .int i1), (2, .int i2), (3, .int i3), (4, .int i4), (5, .int i5)]) hx hb dX5_copy_30 hl (by decide) rfl (fun ls hl => ?_)
          refine lv_aload hx hb dX5_copy_32 (lv_at hl 1 rfl) ?_
          refine g_get F inG2 hw 8 rfl rfl 1 (by decide) t_174 (fun _ h9 => h9) rfl dX5_copy_34 ?_
          refine lv_iconst (v := (-1)) hx hb dX5_copy_37 (by decide) ?_
          refine lv_icmp_eq (tgt := 50) hx hb dX5_copy_38 (by decide) (fun c11 => ?_) (fun c11 => ?_)
          · rw [if_pos c11] at h63
            refine lv_bipush (v := (-11)) hx hb dX5_copy_50 (by decide) ?_
            obtain ⟨rfl, rfl⟩ := inj2 h63
            exact hret _ _ _ _ hw dX5_copy_52
          · rw [if_neg c11] at h63
            refine lv_aload hx hb dX5_copy_41 (lv_at hl 0 rfl) ?_
            refine g_get F inG2 hw 2 rfl rfl 1 (by decide) t_174 (fun _ h9 => h9) rfl dX5_copy_43 ?_
            refine lv_iconst (v := (-1)) hx hb dX5_copy_46 (by decide) ?_
            refine lv_icmp_ne (tgt := 53) hx hb dX5_copy_47 (by decide) (fun c12 => ?_) (fun c12 => ?_)
            · rw [if_neg c12] at h63
              refine lv_aload hx hb dX5_copy_53 (lv_at hl 1 rfl) ?_
              refine g_get F inG2 hw 8 rfl rfl 1 (by decide) t_174 (fun _ h9 => h9) rfl dX5_copy_55 ?_
              refine lv_aload hx hb dX5_copy_58 (lv_at hl 0 rfl) ?_
              refine g_get F inG2 hw 2 rfl rfl 1 (by decide) t_174 (fun _ h9 => h9) rfl dX5_copy_60 ?_
              refine lv_icmp_eq (tgt := 69) hx hb dX5_copy_63 (by decide) (fun c13 => ?_) (fun c13 => ?_)
              · rw [if_pos c13] at h63
                refine lv_aload hx hb dX5_copy_69 (lv_at hl 1 rfl) ?_
                refine lv_iload_n hx hb dX5_copy_71 rfl (lv_at hl 4 rfl) ?_
                refine lv_iload hx hb dX5_copy_72 (lv_at hl 7 rfl) ?_
                obtain ⟨r14, k15, h64⟩ := ob1 h63
                clear h63
                refine g_vi F (cX2_hasRoom_ok l d cy (hs_r0 3) (hs_r1 3) (hs_items 3) (hs_lane 3) (hs_size 3) i2 i5 r14 k15) cal_X2_hasRoom t_722 rfl ⟨by decide, by decide⟩ hw (w' := List.flatten [wX cy xx0 nw0 ps0 kp0 kq0 tr0 tp0 hs0 xx_isKept, wH cy hs0 hs_r0 hs_r1 hs_items hs_lane hs_size]) (SCut.cut (SCut.one (SCut.skip (SCut.take cutH3 SCut.none)))) 0 2 rfl rfl hl.1 (Nat.le_of_ble_eq_true rfl) rfl dX5_copy_74 (fun H locs hw => ?_)
                refine lv_if_eq (tgt := 92) hx hb dX5_copy_77 (by decide) (fun c16 => ?_) (fun c16 => ?_)
                · rw [if_pos c16] at h64
                  refine lv_bipush (v := (-13)) hx hb dX5_copy_92 (by decide) ?_
                  obtain ⟨rfl, rfl⟩ := inj2 h64
                  exact hret _ _ _ _ hw dX5_copy_94
                · rw [if_neg c16] at h64
                  refine lv_aload hx hb dX5_copy_80 (lv_at hl 0 rfl) ?_
                  refine lv_iload hx hb dX5_copy_82 (lv_at hl 6 rfl) ?_
                  refine lv_iload hx hb dX5_copy_84 (lv_at hl 7 rfl) ?_
                  obtain ⟨r17, k18, h65⟩ := ob1 h64
                  clear h64
                  refine g_vi F (cX2_hasRoom_ok l d cy (hs_r0 0) (hs_r1 0) (hs_items 0) (hs_lane 0) (hs_size 0) i4 i5 r17 k18) cal_X2_hasRoom t_722 rfl ⟨by decide, by decide⟩ hw (w' := List.flatten [wX cy xx0 nw0 ps0 kp0 kq0 tr0 tp0 hs0 xx_isKept, wH cy hs0 hs_r0 hs_r1 hs_items hs_lane hs_size]) (SCut.cut (SCut.one (SCut.skip (SCut.take cutH0 SCut.none)))) 0 2 rfl rfl hl.1 (Nat.le_of_ble_eq_true rfl) rfl dX5_copy_86 (fun H locs hw => ?_)
                  refine lv_if_ne (tgt := 95) hx hb dX5_copy_89 (by decide) (fun c19 => ?_) (fun c19 => ?_)
                  · rw [if_neg c19] at h65
                    refine lv_aload hx hb dX5_copy_95 (lv_at hl 1 rfl) ?_
                    refine g_get F inG2 hw 8 rfl rfl 0 (by decide) t_172 (fun _ h9 => h9) rfl dX5_copy_97 ?_
                    refine lv_iload_n hx hb dX5_copy_100 rfl (lv_at hl 4 rfl) ?_
                    refine lv_aload hx hb dX5_copy_101 (lv_at hl 0 rfl) ?_
                    refine g_get F inG2 hw 2 rfl rfl 0 (by decide) t_172 (fun _ h9 => h9) rfl dX5_copy_103 ?_
                    refine lv_iload hx hb dX5_copy_106 (lv_at hl 6 rfl) ?_
                    refine lv_iload hx hb dX5_copy_108 (lv_at hl 7 rfl) ?_
                    obtain ⟨k20, h66⟩ := ob0 h65
                    clear h65
                    refine va_copyl (ty := .long) hx hb (F.2.2.2.2.1.trans hl.1.symm) F.2.2.2.2.2.1 (F.2.2.2.2.2.2.1 _ t_723) (F.2.2.2.2.2.2.1 _ t_311) (F.2.2.2.2.2.2.1 _ t_310) (F.2.2.2.2.2.2.1 _ t_44) F.2.2.2.2.2.2.2.1.1 hw.1 hw.2.1 hw.2.2 9 3 1 1 rfl rfl rfl rfl rfl (cpo_h k20).1 (cpo_h k20).2.1 (cpo_h k20).2.2.1 (cpo_h k20).2.2.2.1 (cpo_h k20).2.2.2.2 (fun _ _ => rfl) (by decide) (by decide +kernel) dX5_copy_110 (fun H locs hP hD hS => ?_)
                    have hw : Wd d A s.heap (List.flatten [wX cy xx0 nw0 ps0 kp0 kq0 tr0 tp0 hs0 xx_isKept, wH cy hs0 hs_r0 hs_r1 (va_up hs_items 0 (va_cpy (hs_items 3) (hs_items 0) (Int32.toNatClampNeg i2) (Int32.toNatClampNeg i4) (Int32.toNatClampNeg i5))) hs_lane hs_size]) H locs := ⟨hP, hD, hS⟩
                    refine lv_iload hx hb dX5_copy_113 (lv_at hl 7 rfl) ?_
                    obtain ⟨rfl, rfl⟩ := inj2 h66
                    exact hret _ _ _ _ hw dX5_copy_115
                  · rw [if_pos c19] at h65
                    refine lv_bipush (v := (-13)) hx hb dX5_copy_92 (by decide) ?_
                    obtain ⟨rfl, rfl⟩ := inj2 h65
                    exact hret _ _ _ _ hw dX5_copy_94
              · rw [if_neg c13] at h63
                refine lv_bipush (v := (-12)) hx hb dX5_copy_66 (by decide) ?_
                obtain ⟨rfl, rfl⟩ := inj2 h63
                exact hret _ _ _ _ hw dX5_copy_68
            · rw [if_pos c12] at h63
              refine lv_bipush (v := (-11)) hx hb dX5_copy_50 (by decide) ?_
              obtain ⟨rfl, rfl⟩ := inj2 h63
              exact hret _ _ _ _ hw dX5_copy_52
        · refine g_aald F 4 rfl hw 1 rfl k10 dX5_copy_29 ?_
          refine lv_astore (lv' := [(7, .ref (hs_r0 1)), (6, .ref (hs_r0 3)), (0, .ref xx0), (1, .int i1), (2, .int i2), (3, .int i3), (4, .int i4), (5, .int i5)]) hx hb dX5_copy_30 hl (by decide) rfl (fun ls hl => ?_)
          refine lv_aload hx hb dX5_copy_32 (lv_at hl 1 rfl) ?_
          refine g_get F inG2 hw 8 rfl rfl 1 (by decide) t_174 (fun _ h9 => h9) rfl dX5_copy_34 ?_
          refine lv_iconst (v := (-1)) hx hb dX5_copy_37 (by decide) ?_
          refine lv_icmp_eq (tgt := 50) hx hb dX5_copy_38 (by decide) (fun c11 => ?_) (fun c11 => ?_)
          · rw [if_pos c11] at h63
            refine lv_bipush (v := (-11)) hx hb dX5_copy_50 (by decide) ?_
            obtain ⟨rfl, rfl⟩ := inj2 h63
            exact hret _ _ _ _ hw dX5_copy_52
          · rw [if_neg c11] at h63
            refine lv_aload hx hb dX5_copy_41 (lv_at hl 0 rfl) ?_
            refine g_get F inG2 hw 4 rfl rfl 1 (by decide) t_174 (fun _ h9 => h9) rfl dX5_copy_43 ?_
            refine lv_iconst (v := (-1)) hx hb dX5_copy_46 (by decide) ?_
            refine lv_icmp_ne (tgt := 53) hx hb dX5_copy_47 (by decide) (fun c12 => ?_) (fun c12 => ?_)
            · rw [if_neg c12] at h63
              refine lv_aload hx hb dX5_copy_53 (lv_at hl 1 rfl) ?_
              refine g_get F inG2 hw 8 rfl rfl 1 (by decide) t_174 (fun _ h9 => h9) rfl dX5_copy_55 ?_
              refine lv_aload hx hb dX5_copy_58 (lv_at hl 0 rfl) ?_
              refine g_get F inG2 hw 4 rfl rfl 1 (by decide) t_174 (fun _ h9 => h9) rfl dX5_copy_60 ?_
              refine lv_icmp_eq (tgt := 69) hx hb dX5_copy_63 (by decide) (fun c13 => ?_) (fun c13 => ?_)
              · rw [if_pos c13] at h63
                refine lv_aload hx hb dX5_copy_69 (lv_at hl 1 rfl) ?_
                refine lv_iload_n hx hb dX5_copy_71 rfl (lv_at hl 4 rfl) ?_
                refine lv_iload hx hb dX5_copy_72 (lv_at hl 7 rfl) ?_
                obtain ⟨r14, k15, h67⟩ := ob1 h63
                clear h63
                refine g_vi F (cX2_hasRoom_ok l d cy (hs_r0 3) (hs_r1 3) (hs_items 3) (hs_lane 3) (hs_size 3) i2 i5 r14 k15) cal_X2_hasRoom t_722 rfl ⟨by decide, by decide⟩ hw (w' := List.flatten [wX cy xx0 nw0 ps0 kp0 kq0 tr0 tp0 hs0 xx_isKept, wH cy hs0 hs_r0 hs_r1 hs_items hs_lane hs_size]) (SCut.cut (SCut.one (SCut.skip (SCut.take cutH3 SCut.none)))) 0 2 rfl rfl hl.1 (Nat.le_of_ble_eq_true rfl) rfl dX5_copy_74 (fun H locs hw => ?_)
                refine lv_if_eq (tgt := 92) hx hb dX5_copy_77 (by decide) (fun c16 => ?_) (fun c16 => ?_)
                · rw [if_pos c16] at h67
                  refine lv_bipush (v := (-13)) hx hb dX5_copy_92 (by decide) ?_
                  obtain ⟨rfl, rfl⟩ := inj2 h67
                  exact hret _ _ _ _ hw dX5_copy_94
                · rw [if_neg c16] at h67
                  refine lv_aload hx hb dX5_copy_80 (lv_at hl 0 rfl) ?_
                  refine lv_iload hx hb dX5_copy_82 (lv_at hl 6 rfl) ?_
                  refine lv_iload hx hb dX5_copy_84 (lv_at hl 7 rfl) ?_
                  obtain ⟨r17, k18, h68⟩ := ob1 h67
                  clear h67
                  refine g_vi F (cX2_hasRoom_ok l d cy (hs_r0 1) (hs_r1 1) (hs_items 1) (hs_lane 1) (hs_size 1) i4 i5 r17 k18) cal_X2_hasRoom t_722 rfl ⟨by decide, by decide⟩ hw (w' := List.flatten [wX cy xx0 nw0 ps0 kp0 kq0 tr0 tp0 hs0 xx_isKept, wH cy hs0 hs_r0 hs_r1 hs_items hs_lane hs_size]) (SCut.cut (SCut.one (SCut.skip (SCut.take cutH1 SCut.none)))) 0 2 rfl rfl hl.1 (Nat.le_of_ble_eq_true rfl) rfl dX5_copy_86 (fun H locs hw => ?_)
                  refine lv_if_ne (tgt := 95) hx hb dX5_copy_89 (by decide) (fun c19 => ?_) (fun c19 => ?_)
                  · rw [if_neg c19] at h68
                    refine lv_aload hx hb dX5_copy_95 (lv_at hl 1 rfl) ?_
                    refine g_get F inG2 hw 8 rfl rfl 0 (by decide) t_172 (fun _ h9 => h9) rfl dX5_copy_97 ?_
                    refine lv_iload_n hx hb dX5_copy_100 rfl (lv_at hl 4 rfl) ?_
                    refine lv_aload hx hb dX5_copy_101 (lv_at hl 0 rfl) ?_
                    refine g_get F inG2 hw 4 rfl rfl 0 (by decide) t_172 (fun _ h9 => h9) rfl dX5_copy_103 ?_
                    refine lv_iload hx hb dX5_copy_106 (lv_at hl 6 rfl) ?_
                    refine lv_iload hx hb dX5_copy_108 (lv_at hl 7 rfl) ?_
                    obtain ⟨k20, h69⟩ := ob0 h68
                    clear h68
                    refine va_copyl (ty := .long) hx hb (F.2.2.2.2.1.trans hl.1.symm) F.2.2.2.2.2.1 (F.2.2.2.2.2.2.1 _ t_723) (F.2.2.2.2.2.2.1 _ t_311) (F.2.2.2.2.2.2.1 _ t_310) (F.2.2.2.2.2.2.1 _ t_44) F.2.2.2.2.2.2.2.1.1 hw.1 hw.2.1 hw.2.2 9 5 1 1 rfl rfl rfl rfl rfl (cpo_h k20).1 (cpo_h k20).2.1 (cpo_h k20).2.2.1 (cpo_h k20).2.2.2.1 (cpo_h k20).2.2.2.2 (fun _ _ => rfl) (by decide) (by decide +kernel) dX5_copy_110 (fun H locs hP hD hS => ?_)
                    have hw : Wd d A s.heap (List.flatten [wX cy xx0 nw0 ps0 kp0 kq0 tr0 tp0 hs0 xx_isKept, wH cy hs0 hs_r0 hs_r1 (va_up hs_items 1 (va_cpy (hs_items 3) (hs_items 1) (Int32.toNatClampNeg i2) (Int32.toNatClampNeg i4) (Int32.toNatClampNeg i5))) hs_lane hs_size]) H locs := ⟨hP, hD, hS⟩
                    refine lv_iload hx hb dX5_copy_113 (lv_at hl 7 rfl) ?_
                    obtain ⟨rfl, rfl⟩ := inj2 h69
                    exact hret _ _ _ _ hw dX5_copy_115
                  · rw [if_pos c19] at h68
                    refine lv_bipush (v := (-13)) hx hb dX5_copy_92 (by decide) ?_
                    obtain ⟨rfl, rfl⟩ := inj2 h68
                    exact hret _ _ _ _ hw dX5_copy_94
              · rw [if_neg c13] at h63
                refine lv_bipush (v := (-12)) hx hb dX5_copy_66 (by decide) ?_
                obtain ⟨rfl, rfl⟩ := inj2 h63
                exact hret _ _ _ _ hw dX5_copy_68
            · rw [if_pos c12] at h63
              refine lv_bipush (v := (-11)) hx hb dX5_copy_50 (by decide) ?_
              obtain ⟨rfl, rfl⟩ := inj2 h63
              exact hret _ _ _ _ hw dX5_copy_52
        · refine g_aald F 4 rfl hw 1 rfl k10 dX5_copy_29 ?_
          refine lv_astore (lv' := [(7, .ref (hs_r0 2)), (6, .ref (hs_r0 3)), (0, .ref xx0), (1, .int i1), (2, .int i2), (3, .int i3), (4, .int i4), (5, .int i5)]) hx hb dX5_copy_30 hl (by decide) rfl (fun ls hl => ?_)
          refine lv_aload hx hb dX5_copy_32 (lv_at hl 1 rfl) ?_
          refine g_get F inG2 hw 8 rfl rfl 1 (by decide) t_174 (fun _ h9 => h9) rfl dX5_copy_34 ?_
          refine lv_iconst (v := (-1)) hx hb dX5_copy_37 (by decide) ?_
          refine lv_icmp_eq (tgt := 50) hx hb dX5_copy_38 (by decide) (fun c11 => ?_) (fun c11 => ?_)
          · rw [if_pos c11] at h63
            refine lv_bipush (v := (-11)) hx hb dX5_copy_50 (by decide) ?_
            obtain ⟨rfl, rfl⟩ := inj2 h63
            exact hret _ _ _ _ hw dX5_copy_52
          · rw [if_neg c11] at h63
            refine lv_aload hx hb dX5_copy_41 (lv_at hl 0 rfl) ?_
            refine g_get F inG2 hw 6 rfl rfl 1 (by decide) t_174 (fun _ h9 => h9) rfl dX5_copy_43 ?_
            refine lv_iconst (v := (-1)) hx hb dX5_copy_46 (by decide) ?_
            refine lv_icmp_ne (tgt := 53) hx hb dX5_copy_47 (by decide) (fun c12 => ?_) (fun c12 => ?_)
            · rw [if_neg c12] at h63
              refine lv_aload hx hb dX5_copy_53 (lv_at hl 1 rfl) ?_
              refine g_get F inG2 hw 8 rfl rfl 1 (by decide) t_174 (fun _ h9 => h9) rfl dX5_copy_55 ?_
              refine lv_aload hx hb dX5_copy_58 (lv_at hl 0 rfl) ?_
              refine g_get F inG2 hw 6 rfl rfl 1 (by decide) t_174 (fun _ h9 => h9) rfl dX5_copy_60 ?_
              refine lv_icmp_eq (tgt := 69) hx hb dX5_copy_63 (by decide) (fun c13 => ?_) (fun c13 => ?_)
              · rw [if_pos c13] at h63
                refine lv_aload hx hb dX5_copy_69 (lv_at hl 1 rfl) ?_
                refine lv_iload_n hx hb dX5_copy_71 rfl (lv_at hl 4 rfl) ?_
                refine lv_iload hx hb dX5_copy_72 (lv_at hl 7 rfl) ?_
                obtain ⟨r14, k15, h70⟩ := ob1 h63
                clear h63
                refine g_vi F (cX2_hasRoom_ok l d cy (hs_r0 3) (hs_r1 3) (hs_items 3) (hs_lane 3) (hs_size 3) i2 i5 r14 k15) cal_X2_hasRoom t_722 rfl ⟨by decide, by decide⟩ hw (w' := List.flatten [wX cy xx0 nw0 ps0 kp0 kq0 tr0 tp0 hs0 xx_isKept, wH cy hs0 hs_r0 hs_r1 hs_items hs_lane hs_size]) (SCut.cut (SCut.one (SCut.skip (SCut.take cutH3 SCut.none)))) 0 2 rfl rfl hl.1 (Nat.le_of_ble_eq_true rfl) rfl dX5_copy_74 (fun H locs hw => ?_)
                refine lv_if_eq (tgt := 92) hx hb dX5_copy_77 (by decide) (fun c16 => ?_) (fun c16 => ?_)
                · rw [if_pos c16] at h70
                  refine lv_bipush (v := (-13)) hx hb dX5_copy_92 (by decide) ?_
                  obtain ⟨rfl, rfl⟩ := inj2 h70
                  exact hret _ _ _ _ hw dX5_copy_94
                · rw [if_neg c16] at h70
                  refine lv_aload hx hb dX5_copy_80 (lv_at hl 0 rfl) ?_
                  refine lv_iload hx hb dX5_copy_82 (lv_at hl 6 rfl) ?_
                  refine lv_iload hx hb dX5_copy_84 (lv_at hl 7 rfl) ?_
                  obtain ⟨r17, k18, h71⟩ := ob1 h70
                  clear h70
                  refine g_vi F (cX2_hasRoom_ok l d cy (hs_r0 2) (hs_r1 2) (hs_items 2) (hs_lane 2) (hs_size 2) i4 i5 r17 k18) cal_X2_hasRoom t_722 rfl ⟨by decide, by decide⟩ hw (w' := List.flatten [wX cy xx0 nw0 ps0 kp0 kq0 tr0 tp0 hs0 xx_isKept, wH cy hs0 hs_r0 hs_r1 hs_items hs_lane hs_size]) (SCut.cut (SCut.one (SCut.skip (SCut.take cutH2 SCut.none)))) 0 2 rfl rfl hl.1 (Nat.le_of_ble_eq_true rfl) rfl dX5_copy_86 (fun H locs hw => ?_)
                  refine lv_if_ne (tgt := 95) hx hb dX5_copy_89 (by decide) (fun c19 => ?_) (fun c19 => ?_)
                  · rw [if_neg c19] at h71
                    refine lv_aload hx hb dX5_copy_95 (lv_at hl 1 rfl) ?_
                    refine g_get F inG2 hw 8 rfl rfl 0 (by decide) t_172 (fun _ h9 => h9) rfl dX5_copy_97 ?_
                    refine lv_iload_n hx hb dX5_copy_100 rfl (lv_at hl 4 rfl) ?_
                    refine lv_aload hx hb dX5_copy_101 (lv_at hl 0 rfl) ?_
                    refine g_get F inG2 hw 6 rfl rfl 0 (by decide) t_172 (fun _ h9 => h9) rfl dX5_copy_103 ?_
                    refine lv_iload hx hb dX5_copy_106 (lv_at hl 6 rfl) ?_
                    refine lv_iload hx hb dX5_copy_108 (lv_at hl 7 rfl) ?_
                    obtain ⟨k20, h72⟩ := ob0 h71
                    clear h71
                    refine va_copyl (ty := .long) hx hb (F.2.2.2.2.1.trans hl.1.symm) F.2.2.2.2.2.1 (F.2.2.2.2.2.2.1 _ t_723) (F.2.2.2.2.2.2.1 _ t_311) (F.2.2.2.2.2.2.1 _ t_310) (F.2.2.2.2.2.2.1 _ t_44) F.2.2.2.2.2.2.2.1.1 hw.1 hw.2.1 hw.2.2 9 7 1 1 rfl rfl rfl rfl rfl (cpo_h k20).1 (cpo_h k20).2.1 (cpo_h k20).2.2.1 (cpo_h k20).2.2.2.1 (cpo_h k20).2.2.2.2 (fun _ _ => rfl) (by decide) (by decide +kernel) dX5_copy_110 (fun H locs hP hD hS => ?_)
                    have hw : Wd d A s.heap (List.flatten [wX cy xx0 nw0 ps0 kp0 kq0 tr0 tp0 hs0 xx_isKept, wH cy hs0 hs_r0 hs_r1 (va_up hs_items 2 (va_cpy (hs_items 3) (hs_items 2) (Int32.toNatClampNeg i2) (Int32.toNatClampNeg i4) (Int32.toNatClampNeg i5))) hs_lane hs_size]) H locs := ⟨hP, hD, hS⟩
                    refine lv_iload hx hb dX5_copy_113 (lv_at hl 7 rfl) ?_
                    obtain ⟨rfl, rfl⟩ := inj2 h72
                    exact hret _ _ _ _ hw dX5_copy_115
                  · rw [if_pos c19] at h71
                    refine lv_bipush (v := (-13)) hx hb dX5_copy_92 (by decide) ?_
                    obtain ⟨rfl, rfl⟩ := inj2 h71
                    exact hret _ _ _ _ hw dX5_copy_94
              · rw [if_neg c13] at h63
                refine lv_bipush (v := (-12)) hx hb dX5_copy_66 (by decide) ?_
                obtain ⟨rfl, rfl⟩ := inj2 h63
                exact hret _ _ _ _ hw dX5_copy_68
            · rw [if_pos c12] at h63
              refine lv_bipush (v := (-11)) hx hb dX5_copy_50 (by decide) ?_
              obtain ⟨rfl, rfl⟩ := inj2 h63
              exact hret _ _ _ _ hw dX5_copy_52
        · refine g_aald F 4 rfl hw 1 rfl k10 dX5_copy_29 ?_
          refine lv_astore (lv' := [(7, .ref (hs_r0 3)), (6, .ref (hs_r0 3)), (0, .ref xx0), (1, .int i1), (2, .int i2), (3, .int i3), (4, .int i4), (5, .int i5)]) hx hb dX5_copy_30 hl (by decide) rfl (fun ls hl => ?_)
          refine lv_aload hx hb dX5_copy_32 (lv_at hl 1 rfl) ?_
          refine g_get F inG2 hw 8 rfl rfl 1 (by decide) t_174 (fun _ h9 => h9) rfl dX5_copy_34 ?_
          refine lv_iconst (v := (-1)) hx hb dX5_copy_37 (by decide) ?_
          refine lv_icmp_eq (tgt := 50) hx hb dX5_copy_38 (by decide) (fun c11 => ?_) (fun c11 => ?_)
          · rw [if_pos c11] at h63
            refine lv_bipush (v := (-11)) hx hb dX5_copy_50 (by decide) ?_
            obtain ⟨rfl, rfl⟩ := inj2 h63
            exact hret _ _ _ _ hw dX5_copy_52
          · rw [if_neg c11] at h63
            refine lv_aload hx hb dX5_copy_41 (lv_at hl 0 rfl) ?_
            refine g_get F inG2 hw 8 rfl rfl 1 (by decide) t_174 (fun _ h9 => h9) rfl dX5_copy_43 ?_
            refine lv_iconst (v := (-1)) hx hb dX5_copy_46 (by decide) ?_
            refine lv_icmp_ne (tgt := 53) hx hb dX5_copy_47 (by decide) (fun c12 => ?_) (fun c12 => ?_)
            · rw [if_neg c12] at h63
              refine lv_aload hx hb dX5_copy_53 (lv_at hl 1 rfl) ?_
              refine g_get F inG2 hw 8 rfl rfl 1 (by decide) t_174 (fun _ h9 => h9) rfl dX5_copy_55 ?_
              refine lv_aload hx hb dX5_copy_58 (lv_at hl 0 rfl) ?_
              refine g_get F inG2 hw 8 rfl rfl 1 (by decide) t_174 (fun _ h9 => h9) rfl dX5_copy_60 ?_
              refine lv_icmp_eq (tgt := 69) hx hb dX5_copy_63 (by decide) (fun c13 => ?_) (fun c13 => ?_)
              · rw [if_pos c13] at h63
                refine lv_aload hx hb dX5_copy_69 (lv_at hl 1 rfl) ?_
                refine lv_iload_n hx hb dX5_copy_71 rfl (lv_at hl 4 rfl) ?_
                refine lv_iload hx hb dX5_copy_72 (lv_at hl 7 rfl) ?_
                obtain ⟨r14, k15, h73⟩ := ob1 h63
                clear h63
                refine g_vi F (cX2_hasRoom_ok l d cy (hs_r0 3) (hs_r1 3) (hs_items 3) (hs_lane 3) (hs_size 3) i2 i5 r14 k15) cal_X2_hasRoom t_722 rfl ⟨by decide, by decide⟩ hw (w' := List.flatten [wX cy xx0 nw0 ps0 kp0 kq0 tr0 tp0 hs0 xx_isKept, wH cy hs0 hs_r0 hs_r1 hs_items hs_lane hs_size]) (SCut.cut (SCut.one (SCut.skip (SCut.take cutH3 SCut.none)))) 0 2 rfl rfl hl.1 (Nat.le_of_ble_eq_true rfl) rfl dX5_copy_74 (fun H locs hw => ?_)
                refine lv_if_eq (tgt := 92) hx hb dX5_copy_77 (by decide) (fun c16 => ?_) (fun c16 => ?_)
                · rw [if_pos c16] at h73
                  refine lv_bipush (v := (-13)) hx hb dX5_copy_92 (by decide) ?_
                  obtain ⟨rfl, rfl⟩ := inj2 h73
                  exact hret _ _ _ _ hw dX5_copy_94
                · rw [if_neg c16] at h73
                  refine lv_aload hx hb dX5_copy_80 (lv_at hl 0 rfl) ?_
                  refine lv_iload hx hb dX5_copy_82 (lv_at hl 6 rfl) ?_
                  refine lv_iload hx hb dX5_copy_84 (lv_at hl 7 rfl) ?_
                  obtain ⟨r17, k18, h74⟩ := ob1 h73
                  clear h73
                  refine g_vi F (cX2_hasRoom_ok l d cy (hs_r0 3) (hs_r1 3) (hs_items 3) (hs_lane 3) (hs_size 3) i4 i5 r17 k18) cal_X2_hasRoom t_722 rfl ⟨by decide, by decide⟩ hw (w' := List.flatten [wX cy xx0 nw0 ps0 kp0 kq0 tr0 tp0 hs0 xx_isKept, wH cy hs0 hs_r0 hs_r1 hs_items hs_lane hs_size]) (SCut.cut (SCut.one (SCut.skip (SCut.take cutH3 SCut.none)))) 0 2 rfl rfl hl.1 (Nat.le_of_ble_eq_true rfl) rfl dX5_copy_86 (fun H locs hw => ?_)
                  refine lv_if_ne (tgt := 95) hx hb dX5_copy_89 (by decide) (fun c19 => ?_) (fun c19 => ?_)
                  · rw [if_neg c19] at h74
                    refine lv_aload hx hb dX5_copy_95 (lv_at hl 1 rfl) ?_
                    refine g_get F inG2 hw 8 rfl rfl 0 (by decide) t_172 (fun _ h9 => h9) rfl dX5_copy_97 ?_
                    refine lv_iload_n hx hb dX5_copy_100 rfl (lv_at hl 4 rfl) ?_
                    refine lv_aload hx hb dX5_copy_101 (lv_at hl 0 rfl) ?_
                    refine g_get F inG2 hw 8 rfl rfl 0 (by decide) t_172 (fun _ h9 => h9) rfl dX5_copy_103 ?_
                    refine lv_iload hx hb dX5_copy_106 (lv_at hl 6 rfl) ?_
                    refine lv_iload hx hb dX5_copy_108 (lv_at hl 7 rfl) ?_
                    obtain ⟨k20, h75⟩ := ob0 h74
                    clear h74
                    refine va_copyl (ty := .long) hx hb (F.2.2.2.2.1.trans hl.1.symm) F.2.2.2.2.2.1 (F.2.2.2.2.2.2.1 _ t_723) (F.2.2.2.2.2.2.1 _ t_311) (F.2.2.2.2.2.2.1 _ t_310) (F.2.2.2.2.2.2.1 _ t_44) F.2.2.2.2.2.2.2.1.1 hw.1 hw.2.1 hw.2.2 9 9 1 1 rfl rfl rfl rfl rfl (cpo_h k20).1 (cpo_h k20).2.1 (cpo_h k20).2.2.1 (cpo_h k20).2.2.2.1 (cpo_h k20).2.2.2.2 (fun _ _ => rfl) (by decide) (by decide +kernel) dX5_copy_110 (fun H locs hP hD hS => ?_)
                    have hw : Wd d A s.heap (List.flatten [wX cy xx0 nw0 ps0 kp0 kq0 tr0 tp0 hs0 xx_isKept, wH cy hs0 hs_r0 hs_r1 (va_up hs_items 3 (va_cpy (hs_items 3) (hs_items 3) (Int32.toNatClampNeg i2) (Int32.toNatClampNeg i4) (Int32.toNatClampNeg i5))) hs_lane hs_size]) H locs := ⟨hP, hD, hS⟩
                    refine lv_iload hx hb dX5_copy_113 (lv_at hl 7 rfl) ?_
                    obtain ⟨rfl, rfl⟩ := inj2 h75
                    exact hret _ _ _ _ hw dX5_copy_115
                  · rw [if_pos c19] at h74
                    refine lv_bipush (v := (-13)) hx hb dX5_copy_92 (by decide) ?_
                    obtain ⟨rfl, rfl⟩ := inj2 h74
                    exact hret _ _ _ _ hw dX5_copy_94
              · rw [if_neg c13] at h63
                refine lv_bipush (v := (-12)) hx hb dX5_copy_66 (by decide) ?_
                obtain ⟨rfl, rfl⟩ := inj2 h63
                exact hret _ _ _ _ hw dX5_copy_68
            · rw [if_pos c12] at h63
              refine lv_bipush (v := (-11)) hx hb dX5_copy_50 (by decide) ?_
              obtain ⟨rfl, rfl⟩ := inj2 h63
              exact hret _ _ _ _ hw dX5_copy_52
    · rw [if_pos c6] at h22
      refine lv_iconst (v := (-1)) hx hb dX5_copy_14 (by decide) ?_
      obtain ⟨rfl, rfl⟩ := inj2 h22
      exact hret _ _ _ _ hw dX5_copy_15
