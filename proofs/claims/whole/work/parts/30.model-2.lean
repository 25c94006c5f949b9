theorem t_32 : (Cond.selects "SundayMarketModel" yX6_asides yX6_asides) ∈ gtbl := wd 32 (by decide +kernel) (by decide +kernel)
theorem t_33 : (Cond.selects "SundayMarketModel" yX6_backs yX6_backs) ∈ gtbl := wd 33 (by decide +kernel) (by decide +kernel)
theorem t_34 : (Cond.selects "SundayMarketModel" yX6_why yX6_why) ∈ gtbl := wd 34 (by decide +kernel) (by decide +kernel)
theorem t_35 : (Cond.selects "SundayMarketModel" yX6_isSo yX6_isSo) ∈ gtbl := wd 35 (by decide +kernel) (by decide +kernel)
theorem t_743 : (Cond.fieldLink "SundayMarketModel" 209 "SundayMarketModel" "keptUndos" "I") ∈ gtbl := wd 743 (by decide +kernel) (by decide +kernel)
theorem t_744 : (Cond.fieldLink "SundayMarketModel" 212 "SundayMarketModel" "isKept" "Z") ∈ gtbl := wd 744 (by decide +kernel) (by decide +kernel)
theorem t_996 : (Cond.instanceMethod yX6_best) ∈ gtbl := wd 996 (by decide +kernel) (by decide +kernel)
theorem t_997 : (Cond.selects "SundayMarketModel" yX6_best yX6_best) ∈ gtbl := wd 997 (by decide +kernel) (by decide +kernel)
theorem t_998 : (Cond.code yX6_best prog_8_method_53_code 3 (some .int)) ∈ gtbl := wd 998 (by decide +kernel) (by decide +kernel)
theorem t_999 : (Cond.methodLink "SundayMarketModel" 194 yX6_bestSale) ∈ gtbl := wd 999 (by decide +kernel) (by decide +kernel)
theorem t_1004 : (Cond.instanceMethod yX6_market) ∈ gtbl := wd 1004 (by decide +kernel) (by decide +kernel)
theorem t_1005 : (Cond.selects "SundayMarketModel" yX6_market yX6_market) ∈ gtbl := wd 1005 (by decide +kernel) (by decide +kernel)
theorem t_1006 : (Cond.code yX6_market prog_8_method_56_code 5 (some .int)) ∈ gtbl := wd 1006 (by decide +kernel) (by decide +kernel)
theorem t_1007 : (Cond.methodLink "SundayMarketModel" 197 yX6_asides) ∈ gtbl := wd 1007 (by decide +kernel) (by decide +kernel)
theorem t_1009 : (Cond.instanceMethod yX6_asides) ∈ gtbl := wd 1009 (by decide +kernel) (by decide +kernel)
theorem t_1010 : (Cond.code yX6_asides prog_8_method_54_code 2 none) ∈ gtbl := wd 1010 (by decide +kernel) (by decide +kernel)
theorem t_1011 : (Cond.methodLink "SundayMarketModel" 200 yX6_backs) ∈ gtbl := wd 1011 (by decide +kernel) (by decide +kernel)
theorem t_1013 : (Cond.instanceMethod yX6_backs) ∈ gtbl := wd 1013 (by decide +kernel) (by decide +kernel)
theorem t_1014 : (Cond.code yX6_backs prog_8_method_55_code 2 none) ∈ gtbl := wd 1014 (by decide +kernel) (by decide +kernel)
theorem t_1016 : (Cond.instanceMethod yX6_longest) ∈ gtbl := wd 1016 (by decide +kernel) (by decide +kernel)
theorem t_1017 : (Cond.selects "SundayMarketModel" yX6_longest yX6_longest) ∈ gtbl := wd 1017 (by decide +kernel) (by decide +kernel)
theorem t_1018 : (Cond.code yX6_longest prog_8_method_57_code 7 (some .int)) ∈ gtbl := wd 1018 (by decide +kernel) (by decide +kernel)
theorem t_1020 : (Cond.instanceMethod yX6_stretch) ∈ gtbl := wd 1020 (by decide +kernel) (by decide +kernel)
theorem t_1021 : (Cond.selects "SundayMarketModel" yX6_stretch yX6_stretch) ∈ gtbl := wd 1021 (by decide +kernel) (by decide +kernel)
theorem t_1022 : (Cond.code yX6_stretch prog_8_method_58_code 10 (some .int)) ∈ gtbl := wd 1022 (by decide +kernel) (by decide +kernel)
theorem t_1024 : (Cond.instanceMethod yX6_more) ∈ gtbl := wd 1024 (by decide +kernel) (by decide +kernel)
theorem t_1025 : (Cond.selects "SundayMarketModel" yX6_more yX6_more) ∈ gtbl := wd 1025 (by decide +kernel) (by decide +kernel)
theorem t_1026 : (Cond.code yX6_more prog_8_method_59_code 10 (some .int)) ∈ gtbl := wd 1026 (by decide +kernel) (by decide +kernel)
theorem t_1027 : (Cond.constantLong "SundayMarketModel" 203 (20)) ∈ gtbl := wd 1027 (by decide +kernel) (by decide +kernel)
theorem t_1029 : (Cond.instanceMethod yX6_envy) ∈ gtbl := wd 1029 (by decide +kernel) (by decide +kernel)
theorem t_1030 : (Cond.selects "SundayMarketModel" yX6_envy yX6_envy) ∈ gtbl := wd 1030 (by decide +kernel) (by decide +kernel)
theorem t_1031 : (Cond.code yX6_envy prog_8_method_60_code 7 (some .int)) ∈ gtbl := wd 1031 (by decide +kernel) (by decide +kernel)
theorem t_1033 : (Cond.instanceMethod yX6_both) ∈ gtbl := wd 1033 (by decide +kernel) (by decide +kernel)
theorem t_1034 : (Cond.selects "SundayMarketModel" yX6_both yX6_both) ∈ gtbl := wd 1034 (by decide +kernel) (by decide +kernel)
theorem t_1035 : (Cond.code yX6_both prog_8_method_61_code 3 (some .int)) ∈ gtbl := wd 1035 (by decide +kernel) (by decide +kernel)
theorem t_1037 : (Cond.instanceMethod yX6_hands) ∈ gtbl := wd 1037 (by decide +kernel) (by decide +kernel)
theorem t_1038 : (Cond.selects "SundayMarketModel" yX6_hands yX6_hands) ∈ gtbl := wd 1038 (by decide +kernel) (by decide +kernel)
theorem t_1039 : (Cond.code yX6_hands prog_8_method_62_code 4 (some .int)) ∈ gtbl := wd 1039 (by decide +kernel) (by decide +kernel)
theorem t_1041 : (Cond.instanceMethod yX6_rain) ∈ gtbl := wd 1041 (by decide +kernel) (by decide +kernel)
theorem t_1042 : (Cond.selects "SundayMarketModel" yX6_rain yX6_rain) ∈ gtbl := wd 1042 (by decide +kernel) (by decide +kernel)
theorem t_1043 : (Cond.code yX6_rain prog_8_method_63_code 11 (some .int)) ∈ gtbl := wd 1043 (by decide +kernel) (by decide +kernel)
theorem t_1044 : (Cond.constantLong "SundayMarketModel" 205 (300)) ∈ gtbl := wd 1044 (by decide +kernel) (by decide +kernel)
theorem t_1045 : (Cond.constantLong "SundayMarketModel" 207 (10)) ∈ gtbl := wd 1045 (by decide +kernel) (by decide +kernel)
theorem t_1047 : (Cond.instanceMethod yX6_image) ∈ gtbl := wd 1047 (by decide +kernel) (by decide +kernel)
theorem t_1048 : (Cond.selects "SundayMarketModel" yX6_image yX6_image) ∈ gtbl := wd 1048 (by decide +kernel) (by decide +kernel)
theorem t_1049 : (Cond.code yX6_image prog_8_method_64_code 2 (some .int)) ∈ gtbl := wd 1049 (by decide +kernel) (by decide +kernel)
theorem t_1051 : (Cond.instanceMethod yX6_restore) ∈ gtbl := wd 1051 (by decide +kernel) (by decide +kernel)
theorem t_1052 : (Cond.selects "SundayMarketModel" yX6_restore yX6_restore) ∈ gtbl := wd 1052 (by decide +kernel) (by decide +kernel)
theorem t_1053 : (Cond.code yX6_restore prog_8_method_65_code 2 (some .int)) ∈ gtbl := wd 1053 (by decide +kernel) (by decide +kernel)
theorem t_1055 : (Cond.instanceMethod yX6_told) ∈ gtbl := wd 1055 (by decide +kernel) (by decide +kernel)
theorem t_1056 : (Cond.selects "SundayMarketModel" yX6_told yX6_told) ∈ gtbl := wd 1056 (by decide +kernel) (by decide +kernel)
theorem t_1057 : (Cond.code yX6_told prog_8_method_70_code 12 (some .int)) ∈ gtbl := wd 1057 (by decide +kernel) (by decide +kernel)
theorem t_1058 : (Cond.methodLink "SundayMarketModel" 217 yX6_isSheet) ∈ gtbl := wd 1058 (by decide +kernel) (by decide +kernel)
theorem t_1059 : (Cond.static yX6_isSheet) ∈ gtbl := wd 1059 (by decide +kernel) (by decide +kernel)
theorem t_1060 : (Cond.code yX6_isSheet prog_8_method_66_code 1 (some .boolean)) ∈ gtbl := wd 1060 (by decide +kernel) (by decide +kernel)
theorem t_1061 : (Cond.constantLong "SundayMarketModel" 215 (3)) ∈ gtbl := wd 1061 (by decide +kernel) (by decide +kernel)
theorem t_1062 : (Cond.methodLink "SundayMarketModel" 220 yX6_isLane) ∈ gtbl := wd 1062 (by decide +kernel) (by decide +kernel)
theorem t_1063 : (Cond.static yX6_isLane) ∈ gtbl := wd 1063 (by decide +kernel) (by decide +kernel)
theorem t_1064 : (Cond.code yX6_isLane prog_8_method_67_code 1 (some .boolean)) ∈ gtbl := wd 1064 (by decide +kernel) (by decide +kernel)
theorem t_1065 : (Cond.methodLink "SundayMarketModel" 223 yX6_why) ∈ gtbl := wd 1065 (by decide +kernel) (by decide +kernel)
theorem t_1067 : (Cond.instanceMethod yX6_why) ∈ gtbl := wd 1067 (by decide +kernel) (by decide +kernel)
theorem t_1068 : (Cond.code yX6_why prog_8_method_68_code 5 (some .int)) ∈ gtbl := wd 1068 (by decide +kernel) (by decide +kernel)
theorem t_1069 : (Cond.methodLink "SundayMarketModel" 227 yX6_isSo) ∈ gtbl := wd 1069 (by decide +kernel) (by decide +kernel)
theorem t_1071 : (Cond.instanceMethod yX6_isSo) ∈ gtbl := wd 1071 (by decide +kernel) (by decide +kernel)
theorem t_1072 : (Cond.code yX6_isSo prog_8_method_69_code 6 (some .boolean)) ∈ gtbl := wd 1072 (by decide +kernel) (by decide +kernel)
theorem t_1074 : (Cond.instanceMethod yX6_film) ∈ gtbl := wd 1074 (by decide +kernel) (by decide +kernel)
theorem t_1075 : (Cond.selects "SundayMarketModel" yX6_film yX6_film) ∈ gtbl := wd 1075 (by decide +kernel) (by decide +kernel)
theorem t_1076 : (Cond.code yX6_film prog_8_method_71_code 8 (some .int)) ∈ gtbl := wd 1076 (by decide +kernel) (by decide +kernel)
def fX6_best (m_now : Nat → Int32) (m_bestGain : Int32) (i1 : Int32) : Option (Int32 × (Nat → Int32) × Int32) :=
  bd1 (fX6_in (Int32.toInt64 i1) 0 1) fun r1 =>
  if r1 = 0 then
    some ((-1), m_now, m_bestGain)
  else
    bd3 (fX6_bestSale m_now) fun r4 f5 x6 =>
    if i1 = 0 then
      some (r4, f5, x6)
    else
      if r4 = (-4) then
        some (r4, f5, x6)
      else
        some (x6, f5, x6)
def fX6_asides_L2 (m_now : Nat → Int32) : Nat → Int32 → (Nat → Int32) → Option ((Nat → Int32))
  | 0, _, _ => none
  | n + 1, v9, g10 =>
    if 95 ≤ v9 then
      some (g10)
    else
      bd1 (ix v9 95) fun j16 =>
      fX6_asides_L2 m_now n (v9 + 1) (upd g10 j16 (m_now j16))
def fX6_asides (m_now : Nat → Int32) (m_aside : Nat → Int32) : Option ((Nat → Int32)) :=
  bd1 (fX6_asides_L2 m_now fl 0 m_aside) fun q14 =>
  some (q14)
def fX6_backs_L2 (m_aside : Nat → Int32) : Nat → Int32 → (Nat → Int32) → Option ((Nat → Int32))
  | 0, _, _ => none
  | n + 1, v9, g10 =>
    if 95 ≤ v9 then
      some (g10)
    else
      bd1 (ix v9 95) fun j16 =>
      fX6_backs_L2 m_aside n (v9 + 1) (upd g10 j16 (m_aside j16))
def fX6_backs (m_now : Nat → Int32) (m_aside : Nat → Int32) : Option ((Nat → Int32)) :=
  bd1 (fX6_backs_L2 m_aside fl 0 m_now) fun q14 =>
  some (q14)
def fX6_market_L23  : Nat → Int32 → Int32 → Int32 → (Nat → Int32) → Option ((Nat → Int32) × Int32 × Int32)
  | 0, _, _, _, _ => none
  | n + 1, v28, v29, v30, g31 =>
    if v29 = (-4) then
      some (g31, v30, v28)
    else
      bd1 (fX6_goes g31 (v29 / 1000) ((v29 / 100) - (v29 / 100) / 10 * 10) (v29 - v29 / 100 * 100)) fun f39 =>
      bd3 (fX6_bestSale f39) fun r41 f42 x43 =>
      fX6_market_L23 n (v28 + 1) r41 x43 f42
def fX6_market (m_now : Nat → Int32) (m_bestGain : Int32) (m_aside : Nat → Int32) (i1 : Int32) : Option (Int32 × (Nat → Int32) × Int32 × (Nat → Int32)) :=
  bd1 (fX6_in (Int32.toInt64 i1) 0 1) fun r1 =>
  if r1 = 0 then
    some ((-1), m_now, m_bestGain, m_aside)
  else
    bd1 (fX6_asides m_now m_aside) fun f4 =>
    bd3 (fX6_bestSale m_now) fun r6 f7 x8 =>
    bd3 (fX6_market_L23 fl 0 r6 x8 f7) fun q35 o36 o37 =>
    bd1 (fX6_worthAll q35) fun r45 =>
    bd1 (fX6_backs q35 f4) fun f47 =>
    if i1 = 0 then
      some (o37, f47, o36, f4)
    else
      some (r45, f47, o36, f4)
def fX6_longest_L32 (i1 : Int32) (m_now : Nat → Int32) : Nat → Int32 → Int32 → Int32 → Int32 → Option (Int32 × Int32)
  | 0, _, _, _, _ => none
  | n + 1, v41, v42, v43, v44 =>
    if 12 ≤ v44 then
      some (v41, v42)
    else
      bd1 (fX6_hasOne m_now i1 v44) fun r51 =>
      bd1 (if r51 = 0 then
          some (0)
        else
          some ((v43 + 1))
        : Option Int32) fun x54 =>
      bd1 (if x54 ≤ v41 then
          some (v42)
        else
          some (((v44 - x54) + 1))
        : Option Int32) fun x58 =>
      bd1 (if x54 ≤ v41 then
          some (v41)
        else
          some (x54)
        : Option Int32) fun x62 =>
      fX6_longest_L32 i1 m_now n x62 x58 x54 (v44 + 1)
def fX6_longest (m_now : Nat → Int32) (i1 : Int32) (i2 : Int32) : Option (Int32) :=
  bd1 (fX6_isPerson m_now i1) fun r1 =>
  if r1 = 0 then
    some ((-1))
  else
    bd1 (fX6_in (Int32.toInt64 i2) 0 1) fun r4 =>
    if r4 = 0 then
      some ((-1))
    else
      bd2 (fX6_longest_L32 i1 m_now fl 0 (-4) 0 0) fun o48 o49 =>
      if i2 = 0 then
        some (o48)
      else
        some (o49)
def fX6_stretch_L49 (i2 : Int32) (r10 : Int32) : Nat → Int32 → Int32 → Int32 → Option (Int32 × Int32)
  | 0, _, _, _ => none
  | n + 1, v49, v50, v51 =>
    if 12 < (v51 + i2) then
      some (v49, v50)
    else
      bd1 (fX6_many (((((1 : Int32) <<< (i2 &&& 31)) - 1) <<< (v51 &&& 31)) &&& (r10 ^^^ (-1)))) fun r58 =>
      bd1 (if v49 ≤ r58 then
          some (v50)
        else
          some (v51)
        : Option Int32) fun x61 =>
      bd1 (if v49 ≤ r58 then
          some (v49)
        else
          some (r58)
        : Option Int32) fun x65 =>
      fX6_stretch_L49 i2 r10 n x65 x61 (v51 + 1)
def fX6_stretch (m_now : Nat → Int32) (i1 : Int32) (i2 : Int32) (i3 : Int32) : Option (Int32) :=
  bd1 (fX6_isPerson m_now i1) fun r1 =>
  if r1 = 0 then
    some ((-1))
  else
    bd1 (fX6_in (Int32.toInt64 i2) 1 12) fun r4 =>
    if r4 = 0 then
      some ((-1))
    else
      bd1 (fX6_in (Int32.toInt64 i3) 0 1) fun r7 =>
      if r7 = 0 then
        some ((-1))
      else
        bd1 (fX6_halves m_now i1) fun r10 =>
        bd2 (fX6_stretch_L49 i2 r10 fl 99 0 0) fun o55 o56 =>
        if i3 = 0 then
          some (o55)
        else
          some (o56)
def fX6_more_L97 (i1 : Int32) (v175 : Int32) : Nat → Int32 → (Nat → Int32) → Option ((Nat → Int32))
  | 0, _, _ => none
  | n + 1, v235, g236 =>
    if 12 ≤ v235 then
      some (g236)
    else
      bd1 (fX6_gets g236 i1 v235 ((v175 >>> (v235 &&& 31)) &&& 1)) fun f242 =>
      fX6_more_L97 i1 v175 n (v235 + 1) f242
def fX6_more_L69 (i1 : Int32) (i2 : Int32) (i3 : Int32) (r13 : Int32) (f17 : Nat → Int32) : Nat → Int32 → Int32 → Int32 → (Nat → Int32) → Option ((Nat → Int32) × Int32 × Int32)
  | 0, _, _, _, _ => none
  | n + 1, v173, v174, v175, g176 =>
    if 4096 ≤ v175 then
      some (g176, v173, v174)
    else
      bd3 (if (v175 &&& r13) = 0 then
          bd1 (fX6_many v175) fun r224 =>
          if i2 < r224 then
            some (g176, v173, v174)
          else
            bd1 (fX6_more_L97 i1 v175 fl 0 g176) fun q240 =>
            bd1 (fX6_worth q240 i1) fun r244 =>
            bd1 (fX6_many v175) fun r246 =>
            bd1 (if (r244 - (i3 * r246)) ≤ v174 then
                some (v173)
              else
                some (v175)
              : Option Int32) fun x249 =>
            bd1 (if (r244 - (i3 * r246)) ≤ v174 then
                some (v174)
              else
                some ((r244 - (i3 * r246)))
              : Option Int32) fun x253 =>
            bd1 (fX6_backs q240 f17) fun f256 =>
            some (f256, x249, x253)
        else
          some (g176, v173, v174)
        : Option ((Nat → Int32) × Int32 × Int32)) fun f219 x220 x221 =>
      fX6_more_L69 i1 i2 i3 r13 f17 n x220 x221 (v175 + 1) f219
def fX6_more (m_now : Nat → Int32) (m_aside : Nat → Int32) (i1 : Int32) (i2 : Int32) (i3 : Int32) (i4 : Int32) : Option (Int32 × (Nat → Int32) × (Nat → Int32)) :=
  bd1 (fX6_isPerson m_now i1) fun r1 =>
  if r1 = 0 then
    some ((-1), m_now, m_aside)
  else
    bd1 (fX6_in (Int32.toInt64 i2) 0 4) fun r4 =>
    if r4 = 0 then
      some ((-1), m_now, m_aside)
    else
      bd1 (fX6_in (Int32.toInt64 i3) 0 20) fun r7 =>
      if r7 = 0 then
        some ((-1), m_now, m_aside)
      else
        bd1 (fX6_in (Int32.toInt64 i4) 0 1) fun r10 =>
        if r10 = 0 then
          some ((-1), m_now, m_aside)
        else
          bd1 (fX6_halves m_now i1) fun r13 =>
          bd1 (fX6_worth m_now i1) fun r15 =>
          bd1 (fX6_asides m_now m_aside) fun f17 =>
          bd3 (fX6_more_L69 i1 i2 i3 r13 f17 fl 0 r15 1 m_now) fun q180 o181 o182 =>
          if i4 = 0 then
            some (o182, q180, f17)
          else
            some (o181, q180, f17)
def fX6_envy_L57 (i1 : Int32) (f9 : Nat → Int32) (v175 : Int32) : Nat → Int32 → (Nat → Int32) → Option ((Nat → Int32))
  | 0, _, _ => none
  | n + 1, v239, g240 =>
    if 12 ≤ v239 then
      some (g240)
    else
      bd1 (ix ((23 + (12 * v175)) + v239) 95) fun j246 =>
      bd1 (ix ((23 + (12 * i1)) + v239) 95) fun j248 =>
      fX6_envy_L57 i1 f9 v175 n (v239 + 1) (upd g240 j248 (f9 j246))
def fX6_envy_L37 (i1 : Int32) (f9 : Nat → Int32) : Nat → Int32 → Int32 → Int32 → (Nat → Int32) → Option ((Nat → Int32) × Int32 × Int32)
  | 0, _, _, _, _ => none
  | n + 1, v173, v174, v175, g176 =>
    bd1 (ix 0 95) fun j183 =>
    if (g176 j183) ≤ v175 then
      some (g176, v173, v174)
    else
      bd3 (if v175 = i1 then
          some (g176, v173, v174)
        else
          bd1 (fX6_envy_L57 i1 f9 v175 fl 0 g176) fun q244 =>
          bd1 (fX6_worth q244 i1) fun r250 =>
          bd1 (if r250 ≤ v173 then
              some (v174)
            else
              some (v175)
            : Option Int32) fun x253 =>
          bd1 (if r250 ≤ v173 then
              some (v173)
            else
              some (r250)
            : Option Int32) fun x257 =>
          bd1 (fX6_backs q244 f9) fun f260 =>
          some (f260, x257, x253)
        : Option ((Nat → Int32) × Int32 × Int32)) fun f222 x223 x224 =>
      fX6_envy_L37 i1 f9 n x223 x224 (v175 + 1) f222
def fX6_envy (m_now : Nat → Int32) (m_aside : Nat → Int32) (i1 : Int32) (i2 : Int32) : Option (Int32 × (Nat → Int32) × (Nat → Int32)) :=
  bd1 (fX6_isPerson m_now i1) fun r1 =>
  if r1 = 0 then
    some ((-1), m_now, m_aside)
  else
    bd1 (fX6_in (Int32.toInt64 i2) 0 1) fun r4 =>
    if r4 = 0 then
      some ((-1), m_now, m_aside)
    else
      bd1 (fX6_worth m_now i1) fun r7 =>
      bd1 (fX6_asides m_now m_aside) fun f9 =>
      bd3 (fX6_envy_L37 i1 f9 fl r7 (-4) 0 m_now) fun q180 o181 o182 =>
      if i2 = 0 then
        some (o182, q180, f9)
      else
        if o182 = (-4) then
          some (o182, q180, f9)
        else
          some (o181, q180, f9)
def fX6_both (m_now : Nat → Int32) (i1 : Int32) (i2 : Int32) : Option (Int32) :=
  bd1 (fX6_isPerson m_now i1) fun r1 =>
  if r1 = 0 then
    some ((-1))
  else
    bd1 (fX6_isPerson m_now i2) fun r4 =>
    if r4 = 0 then
      some ((-1))
    else
      bd1 (fX6_halves m_now i1) fun r7 =>
      bd1 (fX6_halves m_now i2) fun r9 =>
      some ((r7 &&& r9))
def fX6_hands_L13 (i1 : Int32) (m_now : Nat → Int32) : Nat → Int32 → Int32 → Option (Int32)
  | 0, _, _ => none
  | n + 1, v24, v25 =>
    bd1 (ix 0 95) fun j30 =>
    if (m_now j30) ≤ v25 then
      some (v24)
    else
      bd1 (fX6_hasOne m_now v25 i1) fun r33 =>
      bd1 (if r33 = 0 then
          some (((1 : Int32) <<< (v25 &&& 31)))
        else
          some (0)
        : Option Int32) fun x36 =>
      fX6_hands_L13 i1 m_now n (v24 ||| x36) (v25 + 1)
def fX6_hands (m_now : Nat → Int32) (i1 : Int32) : Option (Int32) :=
  bd1 (fX6_isHalf i1) fun r1 =>
  if r1 = 0 then
    some ((-1))
  else
    bd1 (fX6_hands_L13 i1 m_now fl 0 0) fun o29 =>
    some (o29)
def fX6_rain_L83 (i3 : Int32) (m_now : Nat → Int32) (j13 : Nat) (v183 : Int32) : Nat → Int32 → Int32 → Option (Int32)
  | 0, _, _ => none
  | n + 1, v251, v252 =>
    if 6 ≤ v251 then
      some (v252)
    else
      bd1 (if (((m_now j13) >>> (v251 &&& 31)) &&& 1) = 1 then
          some (1)
        else
          if ((v183 >>> (v251 &&& 31)) &&& 1) = 1 then
            some (i3)
          else
            some ((10 - i3))
        : Option Int32) fun x260 =>
      fX6_rain_L83 i3 m_now j13 v183 n (v251 + 1) (v252 * x260)
def fX6_rain_L195  : Nat → Int32 → Int32 → Option (Int32)
  | 0, _, _ => none
  | n + 1, v278, v279 =>
    if v279 = 0 then
      some (v278)
    else
      bd0 (nz v279) <|
      fX6_rain_L195 n v279 (v278 - v278 / v279 * v279)
def fX6_rain_L62 (i1 : Int32) (i2 : Int32) (i3 : Int32) (m_now : Nat → Int32) (j13 : Nat) : Nat → Int32 → Int32 → Int32 → (Nat → Int32) → Option ((Nat → Int32) × Int32 × Int32)
  | 0, _, _, _, _ => none
  | n + 1, v181, v182, v183, g184 =>
    if 64 ≤ v183 then
      some (g184, v181, v182)
    else
      bd3 (if (v183 &&& (m_now j13)) = 0 then
          bd1 (fX6_rain_L83 i3 m_now j13 v183 fl 0 1) fun o256 =>
          bd1 (ix 2 95) fun j264 =>
          bd1 (fX6_worth (upd g184 j264 ((m_now j13) ||| v183)) i1) fun r266 =>
          bd1 (if r266 < i2 then
              some (0)
            else
              some (o256)
            : Option Int32) fun x269 =>
          some ((upd g184 j264 ((m_now j13) ||| v183)), (v181 + x269), (v182 + o256))
        else
          some (g184, v181, v182)
        : Option ((Nat → Int32) × Int32 × Int32)) fun f230 x231 x232 =>
      fX6_rain_L62 i1 i2 i3 m_now j13 n x231 x232 (v183 + 1) f230
def fX6_rain (m_now : Nat → Int32) (i1 : Int32) (i2 : Int32) (i3 : Int32) (i4 : Int32) : Option (Int32 × (Nat → Int32)) :=
  bd1 (fX6_isPerson m_now i1) fun r1 =>
  if r1 = 0 then
    some ((-1), m_now)
  else
    bd1 (fX6_in (Int32.toInt64 i2) 0 300) fun r4 =>
    if r4 = 0 then
      some ((-1), m_now)
    else
      bd1 (fX6_in (Int32.toInt64 i3) 0 10) fun r7 =>
      if r7 = 0 then
        some ((-1), m_now)
      else
        bd1 (fX6_in (Int32.toInt64 i4) 0 1) fun r10 =>
        if r10 = 0 then
          some ((-1), m_now)
        else
          bd1 (ix 2 95) fun j13 =>
          bd3 (fX6_rain_L62 i1 i2 i3 m_now j13 fl 0 0 0 m_now) fun q188 o189 o190 =>
          bd1 (fX6_rain_L195 fl o189 o190) fun o283 =>
          if i4 = 0 then
            bd0 (nz o283) <|
            some ((o189 / o283), (upd q188 j13 (m_now j13)))
          else
            bd0 (nz o283) <|
            some ((o190 / o283), (upd q188 j13 (m_now j13)))
def fX6_image_L28 (m_undone : Nat → Int32) : Nat → Int32 → (Nat → Int32) → Option ((Nat → Int32))
  | 0, _, _ => none
  | n + 1, v36, g37 =>
    if 648 ≤ v36 then
      some (g37)
    else
      bd1 (ix v36 648) fun j43 =>
      bd1 (ix (95 + v36) 743) fun j45 =>
      fX6_image_L28 m_undone n (v36 + 1) (upd g37 j45 (m_undone j43))
def fX6_image_L2 (m_now : Nat → Int32) : Nat → Int32 → (Nat → Int32) → Option ((Nat → Int32))
  | 0, _, _ => none
  | n + 1, v13, g14 =>
    if 95 ≤ v13 then
      some (g14)
    else
      bd1 (ix v13 95) fun j20 =>
      bd1 (ix v13 743) fun j22 =>
      fX6_image_L2 m_now n (v13 + 1) (upd g14 j22 (m_now j20))
def fX6_image (m_now : Nat → Int32) (m_undone : Nat → Int32) (m_undos : Int32) (m_kept : Nat → Int32) : Option (Int32 × (Nat → Int32) × Int32 × Int32) :=
  bd1 (fX6_image_L2 m_now fl 0 m_kept) fun q18 =>
  bd1 (fX6_image_L28 m_undone fl 0 q18) fun q41 =>
  some (1, q41, m_undos, 1)
def fX6_restore_L38 (m_kept : Nat → Int32) : Nat → Int32 → (Nat → Int32) → Option ((Nat → Int32))
  | 0, _, _ => none
  | n + 1, v37, g38 =>
    if 648 ≤ v37 then
      some (g38)
    else
      bd1 (ix (95 + v37) 743) fun j44 =>
      bd1 (ix v37 648) fun j46 =>
      fX6_restore_L38 m_kept n (v37 + 1) (upd g38 j46 (m_kept j44))
def fX6_restore_L12 (m_kept : Nat → Int32) : Nat → Int32 → (Nat → Int32) → Option ((Nat → Int32))
  | 0, _, _ => none
  | n + 1, v14, g15 =>
    if 95 ≤ v14 then
      some (g15)
    else
      bd1 (ix v14 743) fun j21 =>
      bd1 (ix v14 95) fun j23 =>
      fX6_restore_L12 m_kept n (v14 + 1) (upd g15 j23 (m_kept j21))
def fX6_restore (m_now : Nat → Int32) (m_undone : Nat → Int32) (m_undos : Int32) (m_kept : Nat → Int32) (m_keptUndos : Int32) (m_isKept : Int32) : Option (Int32 × (Nat → Int32) × (Nat → Int32) × Int32) :=
  if m_isKept = 0 then
    some ((-4), m_now, m_undone, m_undos)
  else
    bd1 (fX6_restore_L12 m_kept fl 0 m_now) fun q19 =>
    bd1 (fX6_restore_L38 m_kept fl 0 m_undone) fun q42 =>
    some (1, q19, q42, m_keptUndos)
def fX6_isSheet (i0 : Int32) : Option (Int32) :=
  bd1 (fX6_in (Int32.toInt64 i0) 0 3) fun r1 =>
  bd0 (isb r1) <|
  some (r1)
def fX6_isLane (i0 : Int32) : Option (Int32) :=
  bd1 (fX6_in (Int32.toInt64 i0) 0 3) fun r1 =>
  bd0 (isb r1) <|
  some (r1)
def fX6_why (m_lanes : Nat → Int32) (m_sizes : Nat → Int32) (i1 : Int32) (i2 : Int32) (i3 : Int32) (i4 : Int32) : Option (Int32) :=
  bd1 (ix i1 4) fun j1 =>
  if 0 ≤ (m_lanes j1) then
    if (m_lanes j1) = i2 then
      if i3 < 0 then
        some ((-13))
      else
        if i4 < 0 then
          some ((-13))
        else
          if (lg_cmp ((Int32.toInt64 i3) + (Int32.toInt64 i4)) (Int32.toInt64 (m_sizes j1))) ≤ 0 then
            some (0)
          else
            some ((-13))
    else
      some ((-12))
  else
    some ((-11))
def fX6_isSo_L6 (i1 : Int32) (i2 : Int32) (i3 : Int32) (m_items : Nat → Int64) (m_now : Nat → Int32) : Nat → Int32 → Int32 → Option (Int32)
  | 0, _, _ => none
  | n + 1, v33, v34 =>
    if i3 ≤ v34 then
      some (v33)
    else
      bd1 (if v33 = 0 then
          some (0)
        else
          bd1 (fX6_worthOf m_now i1 v34) fun r49 =>
          bd1 (ix (i2 + v34) 96) fun j51 =>
          if (lg_cmp (Int32.toInt64 r49) (m_items j51)) = 0 then
            some (1)
          else
            some (0)
        : Option Int32) fun x46 =>
      fX6_isSo_L6 i1 i2 i3 m_items m_now n x46 (v34 + 1)
def fX6_isSo (m_now : Nat → Int32) (m_items : Nat → Int64) (i1 : Int32) (i2 : Int32) (i3 : Int32) : Option (Int32) :=
  bd1 (fX6_isSo_L6 i1 i2 i3 m_items m_now fl 1 0) fun o38 =>
  bd0 (isb o38) <|
  some (o38)
def fX6_told_L93 (i1 : Int32) (i2 : Int32) (i4 : Int32) (i5 : Int32) (i6 : Int32) (m_items : Nat → Int64) : Nat → Int32 → Int32 → (Nat → Int32) → Option ((Nat → Int32) × Int32)
  | 0, _, _, _ => none
  | n + 1, v58, v59, g60 =>
    bd1 (if i6 = 0 then
        some (5)
      else
        bd1 (ix 0 95) fun j72 =>
        some ((g60 j72))
      : Option Int32) fun x69 =>
    if x69 ≤ v58 then
      some (g60, v59)
    else
      bd1 (ix ((5 + (3 * i1)) + i6) 95) fun j75 =>
      bd1 (fX6_isSo (upd g60 j75 v58) m_items i1 ((24 * i2) + i4) i5) fun r77 =>
      bd1 (if r77 = 0 then
          some (0)
        else
          some (((1 : Int32) <<< (v58 &&& 31)))
        : Option Int32) fun x80 =>
      fX6_told_L93 i1 i2 i4 i5 i6 m_items n (v58 + 1) (v59 ||| x80) (upd g60 j75 v58)
def fX6_told (m_now : Nat → Int32) (m_lanes : Nat → Int32) (m_sizes : Nat → Int32) (m_items : Nat → Int64) (i1 : Int32) (i2 : Int32) (i3 : Int32) (i4 : Int32) (i5 : Int32) (i6 : Int32) : Option (Int32 × (Nat → Int32)) :=
  bd1 (fX6_isPerson m_now i1) fun r1 =>
  if r1 = 0 then
    some ((-1), m_now)
  else
    bd1 (fX6_isSheet i2) fun r4 =>
    if r4 = 0 then
      some ((-1), m_now)
    else
      bd1 (fX6_isLane i3) fun r7 =>
      if r7 = 0 then
        some ((-1), m_now)
      else
        bd1 (fX6_in (Int32.toInt64 i5) 1 12) fun r10 =>
        if r10 = 0 then
          some ((-1), m_now)
        else
          bd1 (fX6_in (Int32.toInt64 i6) 0 1) fun r13 =>
          if r13 = 0 then
            some ((-1), m_now)
          else
            bd1 (fX6_why m_lanes m_sizes i2 i3 i4 i5) fun r16 =>
            if 0 ≤ r16 then
              bd1 (ix ((5 + (3 * i1)) + i6) 95) fun j19 =>
              bd2 (fX6_told_L93 i1 i2 i4 i5 i6 m_items fl 0 0 m_now) fun q64 o65 =>
              some (o65, (upd q64 j19 (m_now j19)))
            else
              some (r16, m_now)
def fX6_film_L60 (i1 : Int32) (i2 : Int32) (i3 : Int32) (i5 : Int32) (m_now : Nat → Int32) : Nat → Int32 → (Nat → Int64) → Option ((Nat → Int64))
  | 0, _, _ => none
  | n + 1, v28, g29 =>
    if i2 ≤ v28 then
      some (g29)
    else
      bd1 (fX6_worthOf m_now i1 v28) fun r35 =>
      bd1 (ix (((24 * i3) + i5) + v28) 96) fun j37 =>
      fX6_film_L60 i1 i2 i3 i5 m_now n (v28 + 1) (vp_updL g29 j37 (Int32.toInt64 r35))
def fX6_film (m_now : Nat → Int32) (m_lanes : Nat → Int32) (m_sizes : Nat → Int32) (m_items : Nat → Int64) (i1 : Int32) (i2 : Int32) (i3 : Int32) (i4 : Int32) (i5 : Int32) : Option (Int32 × (Nat → Int64)) :=
  bd1 (fX6_isPerson m_now i1) fun r1 =>
  if r1 = 0 then
    some ((-1), m_items)
  else
    bd1 (fX6_in (Int32.toInt64 i2) 1 12) fun r4 =>
    if r4 = 0 then
      some ((-1), m_items)
    else
      bd1 (fX6_isSheet i3) fun r7 =>
      if r7 = 0 then
        some ((-1), m_items)
      else
        bd1 (fX6_isLane i4) fun r10 =>
        if r10 = 0 then
          some ((-1), m_items)
        else
          bd1 (fX6_why m_lanes m_sizes i3 i4 i5 i2) fun r13 =>
          if 0 ≤ r13 then
            bd1 (fX6_film_L60 i1 i2 i3 i5 m_now fl 0 m_items) fun q33 =>
            some (i2, q33)
          else
            some (r13, m_items)
theorem cal_X6_best : CalV yX6_best cX6_best 3 (some .int) RX6 1 := ⟨t_998, t_996, t_997, t_43, by decide +kernel⟩
set_option maxHeartbeats 4000000 in
set_option maxRecDepth 100000 in
theorem cX6_best_ok (l : Launch) (d : va_G) (cy : Nat → ClassId) (m0 m1 m2 m3 m4 m5 m6 m7 m8 m9 m10 : Nat) (m_now : Nat → Int32) (m_tape : Nat → Int32) (m_typed : Int32) (m_place : Int32) (m_isFault : Int32) (m_readWet : Int32) (m_readHarvest : Int32) (m_read : Nat → Int32) (m_undone : Nat → Int32) (m_undos : Int32) (m_bestGain : Int32) (m_aside : Nat → Int32) (m_kept : Nat → Int32) (m_keptUndos : Int32) (m_isKept : Int32) (m_lanes : Nat → Int32) (m_sizes : Nat → Int32) (m_items : Nat → Int64) (m_moved : Nat → Int64) (i1 : Int32) (r : Int32) (m_now_r : Nat → Int32) (m_bestGain_r : Int32) (h0 : fX6_best m_now m_bestGain i1 = some (r, m_now_r, m_bestGain_r)) : CI l yX6_best cX6_best 3 (some .int) 8 188 d cy [.ref m0, .int i1] (wM cy m0 m1 m2 m3 m4 m5 m6 m7 m8 m9 m10 m_now m_tape m_typed m_place m_isFault m_readWet m_readHarvest m_read m_undone m_undos m_bestGain m_aside m_kept m_keptUndos m_isKept m_lanes m_sizes m_items m_moved) (wM cy m0 m1 m2 m3 m4 m5 m6 m7 m8 m9 m10 m_now_r m_tape m_typed m_place m_isFault m_readWet m_readHarvest m_read m_undone m_undos m_bestGain_r m_aside m_kept m_keptUndos m_isKept m_lanes m_sizes m_items m_moved) r := by
  refine CI.of (by decide) (Nat.le_of_ble_eq_true rfl) ?_
  intro p e s m args below meth c A ls Q F hret hw hl
  have hx := F.1
  have hb := F.2.1
  have hl : lv_has ls 3 [(0, .ref m0), (1, .int i1)] := hl
  rw [fX6_best] at h0
  refine lv_iload_n hx hb dX6_best_0 rfl (lv_at hl 1 rfl) ?_
  refine lv_i2l hx hb dX6_best_1 rfl ?_
  refine lv_lconst (v := 0) hx hb dX6_best_2 (by decide) ?_
  refine lv_lconst (v := 1) hx hb dX6_best_3 (by decide) ?_
  obtain ⟨r1, k2, h10⟩ := ob1 h0
  clear h0
  refine g_si F (cX6_in_ok l d cy (Int32.toInt64 i1) 0 1 r1 k2) cal_X6_in t_793 rfl ⟨by decide, by decide⟩ hw (w' := wM cy m0 m1 m2 m3 m4 m5 m6 m7 m8 m9 m10 m_now m_tape m_typed m_place m_isFault m_readWet m_readHarvest m_read m_undone m_undos m_bestGain m_aside m_kept m_keptUndos m_isKept m_lanes m_sizes m_items m_moved) Cut.nil hl.1 (Nat.le_of_ble_eq_true rfl) rfl dX6_best_4 (fun H locs hw => ?_)
  refine lv_if_ne (tgt := 12) hx hb dX6_best_7 (by decide) (fun c3 => ?_) (fun c3 => ?_)
  · rw [if_neg c3] at h10
    refine lv_aload_n hx hb dX6_best_12 rfl (lv_at hl 0 rfl) ?_
    obtain ⟨r4, f5, x6, k7, h11⟩ := ob3 h10
    clear h10
    refine g_vi F (cX6_bestSale_ok l d cy m0 m1 m2 m3 m4 m5 m6 m7 m8 m9 m10 m_now m_tape m_typed m_place m_isFault m_readWet m_readHarvest m_read m_undone m_undos m_bestGain m_aside m_kept m_keptUndos m_isKept m_lanes m_sizes m_items m_moved r4 f5 x6 k7) cal_X6_bestSale t_999 rfl ⟨by decide, by decide⟩ hw (w' := wM cy m0 m1 m2 m3 m4 m5 m6 m7 m8 m9 m10 f5 m_tape m_typed m_place m_isFault m_readWet m_readHarvest m_read m_undone m_undos x6 m_aside m_kept m_keptUndos m_isKept m_lanes m_sizes m_items m_moved) Cut.all 0 6 rfl rfl hl.1 (Nat.le_of_ble_eq_true rfl) rfl dX6_best_13 (fun H locs hw => ?_)
    refine lv_istore_n (lv' := [(2, .int r4), (0, .ref m0), (1, .int i1)]) hx hb dX6_best_16 rfl hl (by decide) rfl (fun ls hl => ?_)
    refine lv_iload_n hx hb dX6_best_17 rfl (lv_at hl 2 rfl) ?_
    refine lv_if_eq (tgt := 27) hx hb dX6_best_18 (by decide) (fun c8 => ?_) (fun c8 => ?_)
    · rw [if_pos c8] at h11
      refine lv_iload_n hx hb dX6_best_27 rfl (lv_at hl 0 rfl) ?_
      refine lv_goto (tgt := 35) hx hb dX6_best_28 (by decide) ?_
      obtain ⟨rfl, rfl, rfl⟩ := inj3 h11
      exact hret _ _ _ _ hw dX6_best_35
    · rw [if_neg c8] at h11
      refine lv_iload_n hx hb dX6_best_21 rfl (lv_at hl 0 rfl) ?_
      refine lv_bipush (v := (-4)) hx hb dX6_best_22 (by decide) ?_
      refine lv_icmp_ne (tgt := 31) hx hb dX6_best_24 (by decide) (fun c9 => ?_) (fun c9 => ?_)
      · rw [if_neg c9] at h11
        refine lv_aload_n hx hb dX6_best_31 rfl (lv_at hl 1 rfl) ?_
        refine g_get F inG6 hw 0 rfl rfl 10 (by decide) t_740 (fun _ h9 => h9) rfl dX6_best_32 ?_
        obtain ⟨rfl, rfl, rfl⟩ := inj3 h11
        exact hret _ _ _ _ hw dX6_best_35
      · rw [if_pos c9] at h11
        refine lv_iload_n hx hb dX6_best_27 rfl (lv_at hl 0 rfl) ?_
        refine lv_goto (tgt := 35) hx hb dX6_best_28 (by decide) ?_
        obtain ⟨rfl, rfl, rfl⟩ := inj3 h11
        exact hret _ _ _ _ hw dX6_best_35
  · rw [if_pos c3] at h10
    refine lv_iconst (v := (-1)) hx hb dX6_best_10 (by decide) ?_
    obtain ⟨rfl, rfl, rfl⟩ := inj3 h10
    exact hret _ _ _ _ hw dX6_best_11
theorem cal_X6_asides : CalV yX6_asides cX6_asides 2 none RX6 0 := ⟨t_1010, t_1009, t_32, t_43, by decide +kernel⟩
set_option maxHeartbeats 4000000 in
set_option maxRecDepth 100000 in
theorem cX6_asides_ok (l : Launch) (d : va_G) (cy : Nat → ClassId) (m0 m1 m2 m3 m4 m5 m6 m7 m8 m9 m10 : Nat) (m_now : Nat → Int32) (m_tape : Nat → Int32) (m_typed : Int32) (m_place : Int32) (m_isFault : Int32) (m_readWet : Int32) (m_readHarvest : Int32) (m_read : Nat → Int32) (m_undone : Nat → Int32) (m_undos : Int32) (m_bestGain : Int32) (m_aside : Nat → Int32) (m_kept : Nat → Int32) (m_keptUndos : Int32) (m_isKept : Int32) (m_lanes : Nat → Int32) (m_sizes : Nat → Int32) (m_items : Nat → Int64) (m_moved : Nat → Int64) (m_aside_r : Nat → Int32) (h0 : fX6_asides m_now m_aside = some (m_aside_r)) : CV l yX6_asides cX6_asides 2 none 0 0 d cy [.ref m0] (wM cy m0 m1 m2 m3 m4 m5 m6 m7 m8 m9 m10 m_now m_tape m_typed m_place m_isFault m_readWet m_readHarvest m_read m_undone m_undos m_bestGain m_aside m_kept m_keptUndos m_isKept m_lanes m_sizes m_items m_moved) (wM cy m0 m1 m2 m3 m4 m5 m6 m7 m8 m9 m10 m_now m_tape m_typed m_place m_isFault m_readWet m_readHarvest m_read m_undone m_undos m_bestGain m_aside_r m_kept m_keptUndos m_isKept m_lanes m_sizes m_items m_moved) := by
  refine CV.of (by decide) (Nat.le_of_ble_eq_true rfl) ?_
  intro p e s m args below meth c A ls Q F hret hw hl
  have hx := F.1
  have hb := F.2.1
  have hl : lv_has ls 2 [(0, .ref m0)] := hl
  rw [fX6_asides] at h0
  refine lv_iconst (v := 0) hx hb dX6_asides_0 (by decide) ?_
  refine lv_istore_n (lv' := [(1, .int 0), (0, .ref m0)]) hx hb dX6_asides_1 rfl hl (by decide) rfl (fun ls hl => ?_)
  obtain ⟨q14, h18, h19⟩ := ob1 h0
  clear h0
  have kont11 : ∀ (H : Heap) (locs : List Loc) (ls : Array Slot), Wd d A s.heap (wM cy m0 m1 m2 m3 m4 m5 m6 m7 m8 m9 m10 m_now m_tape m_typed m_place m_isFault m_readWet m_readHarvest m_read m_undone m_undos m_bestGain q14 m_kept m_keptUndos m_isKept m_lanes m_sizes m_items m_moved) H locs → lv_has ls 2 [] → W p l e (rmo 0 0) s m args below meth c H locs 0 0 Q (F0 m 26 ls []) := by
    intro H locs ls hw hl
    clear h18
    obtain rfl := inj1 h19
    exact hret _ _ _ _ hw dX6_asides_26
  clear h19
  have loop13 : ∀ (n : Nat) (v9 : Int32) (g10 : Nat → Int32) (H : Heap) (locs : List Loc) (ls : Array Slot), Wd d A s.heap (wM cy m0 m1 m2 m3 m4 m5 m6 m7 m8 m9 m10 m_now m_tape m_typed m_place m_isFault m_readWet m_readHarvest m_read m_undone m_undos m_bestGain g10 m_kept m_keptUndos m_isKept m_lanes m_sizes m_items m_moved) H locs → lv_has ls 2 [(0, .ref m0), (1, .int v9)] → fX6_asides_L2 m_now n v9 g10 = some (q14) → W p l e (rmo 0 0) s m args below meth c H locs 0 0 Q (F0 m 2 ls []) := by
    intro n
    induction n with
    | zero =>
      intro v9 g10 H locs ls hw hl h20
      rw [fX6_asides_L2] at h20
      cases h20
    | succ n ih12 =>
      intro v9 g10 H locs ls hw hl h21
      rw [fX6_asides_L2] at h21
      refine lv_iload_n hx hb dX6_asides_2 rfl (lv_at hl 1 rfl) ?_
      refine lv_bipush (v := 95) hx hb dX6_asides_3 (by decide) ?_
      refine lv_icmp_ge (tgt := 26) hx hb dX6_asides_5 (by decide) (fun c15 => ?_) (fun c15 => ?_)
      · rw [if_pos c15] at h21
        obtain rfl := inj1 h21
        exact kont11 _ _ _ hw (lv_sub hl [] rfl)
      · rw [if_neg c15] at h21
        refine lv_aload_n hx hb dX6_asides_8 rfl (lv_at hl 0 rfl) ?_
        refine g_get F inG6 hw 0 rfl rfl 11 (by decide) t_741 (fun _ h9 => h9) rfl dX6_asides_9 ?_
        refine lv_iload_n hx hb dX6_asides_12 rfl (lv_at hl 1 rfl) ?_
        refine lv_aload_n hx hb dX6_asides_13 rfl (lv_at hl 0 rfl) ?_
        refine g_get F inG6 hw 0 rfl rfl 0 (by decide) t_730 (fun _ h9 => h9) rfl dX6_asides_14 ?_
        refine lv_iload_n hx hb dX6_asides_17 rfl (lv_at hl 1 rfl) ?_
        obtain ⟨j16, k17, h22⟩ := ob1 h21
        clear h21
        refine g_iald F hw 1 rfl k17 dX6_asides_18 ?_
        refine g_iast F hw 5 rfl k17 dX6_asides_19 (w' := wM cy m0 m1 m2 m3 m4 m5 m6 m7 m8 m9 m10 m_now m_tape m_typed m_place m_isFault m_readWet m_readHarvest m_read m_undone m_undos m_bestGain (upd g10 j16 (m_now j16)) m_kept m_keptUndos m_isKept m_lanes m_sizes m_items m_moved) rfl (fun H locs hw => ?_)
        refine lv_iinc (v := (v9 + 1)) (lv' := [(1, .int (v9 + 1)), (0, .ref m0)]) hx hb dX6_asides_20 hl (k := 1) rfl rfl (by decide) rfl (fun ls hl => ?_)
        refine lv_goto (tgt := 2) hx hb dX6_asides_23 (by decide) ?_
        exact ih12 (v9 + 1) (upd g10 j16 (m_now j16)) _ _ _ hw (lv_sub hl [1, 0] rfl) h22
  exact loop13 fl 0 m_aside _ _ _ hw (lv_sub hl [1, 0] rfl) h18
theorem cal_X6_backs : CalV yX6_backs cX6_backs 2 none RX6 0 := ⟨t_1014, t_1013, t_33, t_43, by decide +kernel⟩
set_option maxHeartbeats 4000000 in
set_option maxRecDepth 100000 in
theorem cX6_backs_ok (l : Launch) (d : va_G) (cy : Nat → ClassId) (m0 m1 m2 m3 m4 m5 m6 m7 m8 m9 m10 : Nat) (m_now : Nat → Int32) (m_tape : Nat → Int32) (m_typed : Int32) (m_place : Int32) (m_isFault : Int32) (m_readWet : Int32) (m_readHarvest : Int32) (m_read : Nat → Int32) (m_undone : Nat → Int32) (m_undos : Int32) (m_bestGain : Int32) (m_aside : Nat → Int32) (m_kept : Nat → Int32) (m_keptUndos : Int32) (m_isKept : Int32) (m_lanes : Nat → Int32) (m_sizes : Nat → Int32) (m_items : Nat → Int64) (m_moved : Nat → Int64) (m_now_r : Nat → Int32) (h0 : fX6_backs m_now m_aside = some (m_now_r)) : CV l yX6_backs cX6_backs 2 none 0 0 d cy [.ref m0] (wM cy m0 m1 m2 m3 m4 m5 m6 m7 m8 m9 m10 m_now m_tape m_typed m_place m_isFault m_readWet m_readHarvest m_read m_undone m_undos m_bestGain m_aside m_kept m_keptUndos m_isKept m_lanes m_sizes m_items m_moved) (wM cy m0 m1 m2 m3 m4 m5 m6 m7 m8 m9 m10 m_now_r m_tape m_typed m_place m_isFault m_readWet m_readHarvest m_read m_undone m_undos m_bestGain m_aside m_kept m_keptUndos m_isKept m_lanes m_sizes m_items m_moved) := by
  refine CV.of (by decide) (Nat.le_of_ble_eq_true rfl) ?_
  intro p e s m args below meth c A ls Q F hret hw hl
  have hx := F.1
  have hb := F.2.1
  have hl : lv_has ls 2 [(0, .ref m0)] := hl
  rw [fX6_backs] at h0
  refine lv_iconst (v := 0) hx hb dX6_backs_0 (by decide) ?_
  refine lv_istore_n (lv' := [(1, .int 0), (0, .ref m0)]) hx hb dX6_backs_1 rfl hl (by decide) rfl (fun ls hl => ?_)
  obtain ⟨q14, h18, h19⟩ := ob1 h0
  clear h0
  have kont11 : ∀ (H : Heap) (locs : List Loc) (ls : Array Slot), Wd d A s.heap (wM cy m0 m1 m2 m3 m4 m5 m6 m7 m8 m9 m10 q14 m_tape m_typed m_place m_isFault m_readWet m_readHarvest m_read m_undone m_undos m_bestGain m_aside m_kept m_keptUndos m_isKept m_lanes m_sizes m_items m_moved) H locs → lv_has ls 2 [] → W p l e (rmo 0 0) s m args below meth c H locs 0 0 Q (F0 m 26 ls []) := by
    intro H locs ls hw hl
    clear h18
    obtain rfl := inj1 h19
    exact hret _ _ _ _ hw dX6_backs_26
  clear h19
  have loop13 : ∀ (n : Nat) (v9 : Int32) (g10 : Nat → Int32) (H : Heap) (locs : List Loc) (ls : Array Slot), Wd d A s.heap (wM cy m0 m1 m2 m3 m4 m5 m6 m7 m8 m9 m10 g10 m_tape m_typed m_place m_isFault m_readWet m_readHarvest m_read m_undone m_undos m_bestGain m_aside m_kept m_keptUndos m_isKept m_lanes m_sizes m_items m_moved) H locs → lv_has ls 2 [(0, .ref m0), (1, .int v9)] → fX6_backs_L2 m_aside n v9 g10 = some (q14) → W p l e (rmo 0 0) s m args below meth c H locs 0 0 Q (F0 m 2 ls []) := by
    intro n
    induction n with
    | zero =>
      intro v9 g10 H locs ls hw hl h20
      rw [fX6_backs_L2] at h20
      cases h20
    | succ n ih12 =>
      intro v9 g10 H locs ls hw hl h21
      rw [fX6_backs_L2] at h21
      refine lv_iload_n hx hb dX6_backs_2 rfl (lv_at hl 1 rfl) ?_
      refine lv_bipush (v := 95) hx hb dX6_backs_3 (by decide) ?_
      refine lv_icmp_ge (tgt := 26) hx hb dX6_backs_5 (by decide) (fun c15 => ?_) (fun c15 => ?_)
      · rw [if_pos c15] at h21
        obtain rfl := inj1 h21
        exact kont11 _ _ _ hw (lv_sub hl [] rfl)
      · rw [if_neg c15] at h21
        refine lv_aload_n hx hb dX6_backs_8 rfl (lv_at hl 0 rfl) ?_
        refine g_get F inG6 hw 0 rfl rfl 0 (by decide) t_730 (fun _ h9 => h9) rfl dX6_backs_9 ?_
        refine lv_iload_n hx hb dX6_backs_12 rfl (lv_at hl 1 rfl) ?_
        refine lv_aload_n hx hb dX6_backs_13 rfl (lv_at hl 0 rfl) ?_
        refine g_get F inG6 hw 0 rfl rfl 11 (by decide) t_741 (fun _ h9 => h9) rfl dX6_backs_14 ?_
        refine lv_iload_n hx hb dX6_backs_17 rfl (lv_at hl 1 rfl) ?_
        obtain ⟨j16, k17, h22⟩ := ob1 h21
        clear h21
        refine g_iald F hw 5 rfl k17 dX6_backs_18 ?_
        refine g_iast F hw 1 rfl k17 dX6_backs_19 (w' := wM cy m0 m1 m2 m3 m4 m5 m6 m7 m8 m9 m10 (upd g10 j16 (m_aside j16)) m_tape m_typed m_place m_isFault m_readWet m_readHarvest m_read m_undone m_undos m_bestGain m_aside m_kept m_keptUndos m_isKept m_lanes m_sizes m_items m_moved) rfl (fun H locs hw => ?_)
        refine lv_iinc (v := (v9 + 1)) (lv' := [(1, .int (v9 + 1)), (0, .ref m0)]) hx hb dX6_backs_20 hl (k := 1) rfl rfl (by decide) rfl (fun ls hl => ?_)
        refine lv_goto (tgt := 2) hx hb dX6_backs_23 (by decide) ?_
        exact ih12 (v9 + 1) (upd g10 j16 (m_aside j16)) _ _ _ hw (lv_sub hl [1, 0] rfl) h22
  exact loop13 fl 0 m_now _ _ _ hw (lv_sub hl [1, 0] rfl) h18
theorem cal_X6_market : CalV yX6_market cX6_market 5 (some .int) RX6 1 := ⟨t_1006, t_1004, t_1005, t_43, by decide +kernel⟩
set_option maxHeartbeats 4000000 in
set_option maxRecDepth 100000 in
theorem cX6_market_ok (l : Launch) (d : va_G) (cy : Nat → ClassId) (m0 m1 m2 m3 m4 m5 m6 m7 m8 m9 m10 : Nat) (m_now : Nat → Int32) (m_tape : Nat → Int32) (m_typed : Int32) (m_place : Int32) (m_isFault : Int32) (m_readWet : Int32) (m_readHarvest : Int32) (m_read : Nat → Int32) (m_undone : Nat → Int32) (m_undos : Int32) (m_bestGain : Int32) (m_aside : Nat → Int32) (m_kept : Nat → Int32) (m_keptUndos : Int32) (m_isKept : Int32) (m_lanes : Nat → Int32) (m_sizes : Nat → Int32) (m_items : Nat → Int64) (m_moved : Nat → Int64) (i1 : Int32) (r : Int32) (m_now_r : Nat → Int32) (m_bestGain_r : Int32) (m_aside_r : Nat → Int32) (h0 : fX6_market m_now m_bestGain m_aside i1 = some (r, m_now_r, m_bestGain_r, m_aside_r)) : CI l yX6_market cX6_market 5 (some .int) 8 188 d cy [.ref m0, .int i1] (wM cy m0 m1 m2 m3 m4 m5 m6 m7 m8 m9 m10 m_now m_tape m_typed m_place m_isFault m_readWet m_readHarvest m_read m_undone m_undos m_bestGain m_aside m_kept m_keptUndos m_isKept m_lanes m_sizes m_items m_moved) (wM cy m0 m1 m2 m3 m4 m5 m6 m7 m8 m9 m10 m_now_r m_tape m_typed m_place m_isFault m_readWet m_readHarvest m_read m_undone m_undos m_bestGain_r m_aside_r m_kept m_keptUndos m_isKept m_lanes m_sizes m_items m_moved) r := by
  refine CI.of (by decide) (Nat.le_of_ble_eq_true rfl) ?_
  intro p e s m args below meth c A ls Q F hret hw hl
  have hx := F.1
  have hb := F.2.1
  have hl : lv_has ls 5 [(0, .ref m0), (1, .int i1)] := hl
  rw [fX6_market] at h0
  refine lv_iload_n hx hb dX6_market_0 rfl (lv_at hl 1 rfl) ?_
  refine lv_i2l hx hb dX6_market_1 rfl ?_
  refine lv_lconst (v := 0) hx hb dX6_market_2 (by decide) ?_
  refine lv_lconst (v := 1) hx hb dX6_market_3 (by decide) ?_
  obtain ⟨r1, k2, h50⟩ := ob1 h0
  clear h0
  refine g_si F (cX6_in_ok l d cy (Int32.toInt64 i1) 0 1 r1 k2) cal_X6_in t_793 rfl ⟨by decide, by decide⟩ hw (w' := wM cy m0 m1 m2 m3 m4 m5 m6 m7 m8 m9 m10 m_now m_tape m_typed m_place m_isFault m_readWet m_readHarvest m_read m_undone m_undos m_bestGain m_aside m_kept m_keptUndos m_isKept m_lanes m_sizes m_items m_moved) Cut.nil hl.1 (Nat.le_of_ble_eq_true rfl) rfl dX6_market_4 (fun H locs hw => ?_)
  refine lv_if_ne (tgt := 12) hx hb dX6_market_7 (by decide) (fun c3 => ?_) (fun c3 => ?_)
  · rw [if_neg c3] at h50
    refine lv_aload_n hx hb dX6_market_12 rfl (lv_at hl 0 rfl) ?_
    obtain ⟨f4, k5, h51⟩ := ob1 h50
    clear h50
    refine g_vv F (cX6_asides_ok l d cy m0 m1 m2 m3 m4 m5 m6 m7 m8 m9 m10 m_now m_tape m_typed m_place m_isFault m_readWet m_readHarvest m_read m_undone m_undos m_bestGain m_aside m_kept m_keptUndos m_isKept m_lanes m_sizes m_items m_moved f4 k5) cal_X6_asides t_1007 rfl ⟨by decide, by decide⟩ hw (w' := wM cy m0 m1 m2 m3 m4 m5 m6 m7 m8 m9 m10 m_now m_tape m_typed m_place m_isFault m_readWet m_readHarvest m_read m_undone m_undos m_bestGain f4 m_kept m_keptUndos m_isKept m_lanes m_sizes m_items m_moved) Cut.all 0 6 rfl rfl hl.1 (Nat.le_of_ble_eq_true rfl) rfl dX6_market_13 (fun H locs hw => ?_)
    refine lv_iconst (v := 0) hx hb dX6_market_16 (by decide) ?_
    refine lv_istore_n (lv' := [(2, .int 0), (0, .ref m0), (1, .int i1)]) hx hb dX6_market_17 rfl hl (by decide) rfl (fun ls hl => ?_)
    refine lv_aload_n hx hb dX6_market_18 rfl (lv_at hl 1 rfl) ?_
    obtain ⟨r6, f7, x8, k9, h52⟩ := ob3 h51
    clear h51
    refine g_vi F (cX6_bestSale_ok l d cy m0 m1 m2 m3 m4 m5 m6 m7 m8 m9 m10 m_now m_tape m_typed m_place m_isFault m_readWet m_readHarvest m_read m_undone m_undos m_bestGain f4 m_kept m_keptUndos m_isKept m_lanes m_sizes m_items m_moved r6 f7 x8 k9) cal_X6_bestSale t_999 rfl ⟨by decide, by decide⟩ hw (w' := wM cy m0 m1 m2 m3 m4 m5 m6 m7 m8 m9 m10 f7 m_tape m_typed m_place m_isFault m_readWet m_readHarvest m_read m_undone m_undos x8 f4 m_kept m_keptUndos m_isKept m_lanes m_sizes m_items m_moved) Cut.all 0 6 rfl rfl hl.1 (Nat.le_of_ble_eq_true rfl) rfl dX6_market_19 (fun H locs hw => ?_)
    refine lv_istore_n (lv' := [(3, .int r6), (2, .int 0), (0, .ref m0), (1, .int i1)]) hx hb dX6_market_22 rfl hl (by decide) rfl (fun ls hl => ?_)
    obtain ⟨q35, o36, o37, h53, h54⟩ := ob3 h52
    clear h52
    have kont32 : ∀ (H : Heap) (locs : List Loc) (ls : Array Slot), Wd d A s.heap (wM cy m0 m1 m2 m3 m4 m5 m6 m7 m8 m9 m10 q35 m_tape m_typed m_place m_isFault m_readWet m_readHarvest m_read m_undone m_undos o36 f4 m_kept m_keptUndos m_isKept m_lanes m_sizes m_items m_moved) H locs → lv_has ls 5 [(0, .ref m0), (1, .int i1), (2, .int o37)] → W p l e (rmo 8 188) s m args below meth c H locs 0 0 Q (F0 m 60 ls []) := by
      intro H locs ls hw hl
      clear h53
      refine lv_aload_n hx hb dX6_market_60 rfl (lv_at hl 0 rfl) ?_
      obtain ⟨r45, k46, h55⟩ := ob1 h54
      clear h54
      refine g_vi F (cX6_worthAll_ok l d cy m0 m1 m2 m3 m4 m5 m6 m7 m8 m9 m10 q35 m_tape m_typed m_place m_isFault m_readWet m_readHarvest m_read m_undone m_undos o36 f4 m_kept m_keptUndos m_isKept m_lanes m_sizes m_items m_moved r45 k46) cal_X6_worthAll t_866 rfl ⟨by decide, by decide⟩ hw (w' := wM cy m0 m1 m2 m3 m4 m5 m6 m7 m8 m9 m10 q35 m_tape m_typed m_place m_isFault m_readWet m_readHarvest m_read m_undone m_undos o36 f4 m_kept m_keptUndos m_isKept m_lanes m_sizes m_items m_moved) Cut.all 0 6 rfl rfl hl.1 (Nat.le_of_ble_eq_true rfl) rfl dX6_market_61 (fun H locs hw => ?_)
      refine lv_istore (lv' := [(4, .int r45), (0, .ref m0), (1, .int i1), (2, .int o37)]) hx hb dX6_market_64 hl (by decide) rfl (fun ls hl => ?_)
      refine lv_aload_n hx hb dX6_market_66 rfl (lv_at hl 1 rfl) ?_
      obtain ⟨f47, k48, h56⟩ := ob1 h55
      clear h55
      refine g_vv F (cX6_backs_ok l d cy m0 m1 m2 m3 m4 m5 m6 m7 m8 m9 m10 q35 m_tape m_typed m_place m_isFault m_readWet m_readHarvest m_read m_undone m_undos o36 f4 m_kept m_keptUndos m_isKept m_lanes m_sizes m_items m_moved f47 k48) cal_X6_backs t_1011 rfl ⟨by decide, by decide⟩ hw (w' := wM cy m0 m1 m2 m3 m4 m5 m6 m7 m8 m9 m10 f47 m_tape m_typed m_place m_isFault m_readWet m_readHarvest m_read m_undone m_undos o36 f4 m_kept m_keptUndos m_isKept m_lanes m_sizes m_items m_moved) Cut.all 0 6 rfl rfl hl.1 (Nat.le_of_ble_eq_true rfl) rfl dX6_market_67 (fun H locs hw => ?_)
      refine lv_iload_n hx hb dX6_market_70 rfl (lv_at hl 2 rfl) ?_
      refine lv_if_ne (tgt := 78) hx hb dX6_market_71 (by decide) (fun c49 => ?_) (fun c49 => ?_)
      · rw [if_neg c49] at h56
        refine lv_iload hx hb dX6_market_78 (lv_at hl 0 rfl) ?_
        obtain ⟨rfl, rfl, rfl, rfl⟩ := inj4 h56
        exact hret _ _ _ _ hw dX6_market_80
      · rw [if_pos c49] at h56
        refine lv_iload_n hx hb dX6_market_74 rfl (lv_at hl 3 rfl) ?_
        refine lv_goto (tgt := 80) hx hb dX6_market_75 (by decide) ?_
        obtain ⟨rfl, rfl, rfl, rfl⟩ := inj4 h56
        exact hret _ _ _ _ hw dX6_market_80
    clear h54
    have loop34 : ∀ (n : Nat) (v28 : Int32) (v29 : Int32) (v30 : Int32) (g31 : Nat → Int32) (H : Heap) (locs : List Loc) (ls : Array Slot), Wd d A s.heap (wM cy m0 m1 m2 m3 m4 m5 m6 m7 m8 m9 m10 g31 m_tape m_typed m_place m_isFault m_readWet m_readHarvest m_read m_undone m_undos v30 f4 m_kept m_keptUndos m_isKept m_lanes m_sizes m_items m_moved) H locs → lv_has ls 5 [(0, .ref m0), (1, .int i1), (2, .int v28), (3, .int v29)] → fX6_market_L23 n v28 v29 v30 g31 = some (q35, o36, o37) → W p l e (rmo 8 188) s m args below meth c H locs 0 0 Q (F0 m 23 ls []) := by
      intro n
      induction n with
      | zero =>
        intro v28 v29 v30 g31 H locs ls hw hl h57
        rw [fX6_market_L23] at h57
        cases h57
      | succ n ih33 =>
        intro v28 v29 v30 g31 H locs ls hw hl h58
        rw [fX6_market_L23] at h58
        refine lv_iload_n hx hb dX6_market_23 rfl (lv_at hl 3 rfl) ?_
        refine lv_bipush (v := (-4)) hx hb dX6_market_24 (by decide) ?_
        refine lv_icmp_eq (tgt := 60) hx hb dX6_market_26 (by decide) (fun c38 => ?_) (fun c38 => ?_)
        · rw [if_pos c38] at h58
          obtain ⟨rfl, rfl, rfl⟩ := inj3 h58
          exact kont32 _ _ _ hw (lv_sub hl [0, 1, 2] rfl)
        · rw [if_neg c38] at h58
          refine lv_aload_n hx hb dX6_market_29 rfl (lv_at hl 0 rfl) ?_
          refine lv_iload_n hx hb dX6_market_30 rfl (lv_at hl 3 rfl) ?_
          refine lv_sipush (v := 1000) hx hb dX6_market_31 (by decide) ?_
          refine lv_idiv hx hb dX6_market_34 (by decide) ?_
          refine lv_iload_n hx hb dX6_market_35 rfl (lv_at hl 3 rfl) ?_
          refine lv_bipush (v := 100) hx hb dX6_market_36 (by decide) ?_
          refine lv_idiv hx hb dX6_market_38 (by decide) ?_
          refine lv_bipush (v := 10) hx hb dX6_market_39 (by decide) ?_
          refine lv_irem hx hb dX6_market_41 (by decide) ?_
          refine lv_iload_n hx hb dX6_market_42 rfl (lv_at hl 3 rfl) ?_
          refine lv_bipush (v := 100) hx hb dX6_market_43 (by decide) ?_
          refine lv_irem hx hb dX6_market_45 (by decide) ?_
          obtain ⟨f39, k40, h59⟩ := ob1 h58
          clear h58
          refine g_vv F (cX6_goes_ok l d cy m0 m1 m2 m3 m4 m5 m6 m7 m8 m9 m10 g31 m_tape m_typed m_place m_isFault m_readWet m_readHarvest m_read m_undone m_undos v30 f4 m_kept m_keptUndos m_isKept m_lanes m_sizes m_items m_moved (v29 / 1000) ((v29 / 100) - (v29 / 100) / 10 * 10) (v29 - v29 / 100 * 100) f39 k40) cal_X6_goes t_938 rfl ⟨by decide, by decide⟩ hw (w' := wM cy m0 m1 m2 m3 m4 m5 m6 m7 m8 m9 m10 f39 m_tape m_typed m_place m_isFault m_readWet m_readHarvest m_read m_undone m_undos v30 f4 m_kept m_keptUndos m_isKept m_lanes m_sizes m_items m_moved) Cut.all 0 6 rfl rfl hl.1 (Nat.le_of_ble_eq_true rfl) rfl dX6_market_46 (fun H locs hw => ?_)
          refine lv_iinc (v := (v28 + 1)) (lv' := [(2, .int (v28 + 1)), (0, .ref m0), (1, .int i1), (3, .int v29)]) hx hb dX6_market_49 hl (k := 2) rfl rfl (by decide) rfl (fun ls hl => ?_)
          refine lv_aload_n hx hb dX6_market_52 rfl (lv_at hl 1 rfl) ?_
          obtain ⟨r41, f42, x43, k44, h60⟩ := ob3 h59
          clear h59
          refine g_vi F (cX6_bestSale_ok l d cy m0 m1 m2 m3 m4 m5 m6 m7 m8 m9 m10 f39 m_tape m_typed m_place m_isFault m_readWet m_readHarvest m_read m_undone m_undos v30 f4 m_kept m_keptUndos m_isKept m_lanes m_sizes m_items m_moved r41 f42 x43 k44) cal_X6_bestSale t_999 rfl ⟨by decide, by decide⟩ hw (w' := wM cy m0 m1 m2 m3 m4 m5 m6 m7 m8 m9 m10 f42 m_tape m_typed m_place m_isFault m_readWet m_readHarvest m_read m_undone m_undos x43 f4 m_kept m_keptUndos m_isKept m_lanes m_sizes m_items m_moved) Cut.all 0 6 rfl rfl hl.1 (Nat.le_of_ble_eq_true rfl) rfl dX6_market_53 (fun H locs hw => ?_)
          refine lv_istore_n (lv' := [(3, .int r41), (2, .int (v28 + 1)), (0, .ref m0), (1, .int i1)]) hx hb dX6_market_56 rfl hl (by decide) rfl (fun ls hl => ?_)
          refine lv_goto (tgt := 23) hx hb dX6_market_57 (by decide) ?_
          exact ih33 (v28 + 1) r41 x43 f42 _ _ _ hw (lv_sub hl [2, 3, 1, 0] rfl) h60
    exact loop34 fl 0 r6 x8 f7 _ _ _ hw (lv_sub hl [2, 3, 1, 0] rfl) h53
  · rw [if_pos c3] at h50
    refine lv_iconst (v := (-1)) hx hb dX6_market_10 (by decide) ?_
    obtain ⟨rfl, rfl, rfl, rfl⟩ := inj4 h50
    exact hret _ _ _ _ hw dX6_market_11
theorem cal_X6_longest : CalV yX6_longest cX6_longest 7 (some .int) RX6 2 := ⟨t_1018, t_1016, t_1017, t_43, by decide +kernel⟩
set_option maxHeartbeats 4000000 in
set_option maxRecDepth 100000 in
theorem cX6_longest_ok (l : Launch) (d : va_G) (cy : Nat → ClassId) (m0 m1 m2 m3 m4 m5 m6 m7 m8 m9 m10 : Nat) (m_now : Nat → Int32) (m_tape : Nat → Int32) (m_typed : Int32) (m_place : Int32) (m_isFault : Int32) (m_readWet : Int32) (m_readHarvest : Int32) (m_read : Nat → Int32) (m_undone : Nat → Int32) (m_undos : Int32) (m_bestGain : Int32) (m_aside : Nat → Int32) (m_kept : Nat → Int32) (m_keptUndos : Int32) (m_isKept : Int32) (m_lanes : Nat → Int32) (m_sizes : Nat → Int32) (m_items : Nat → Int64) (m_moved : Nat → Int64) (i1 : Int32) (i2 : Int32) (r : Int32) (h0 : fX6_longest m_now i1 i2 = some (r)) : CI l yX6_longest cX6_longest 7 (some .int) 2 46 d cy [.ref m0, .int i1, .int i2] (wM cy m0 m1 m2 m3 m4 m5 m6 m7 m8 m9 m10 m_now m_tape m_typed m_place m_isFault m_readWet m_readHarvest m_read m_undone m_undos m_bestGain m_aside m_kept m_keptUndos m_isKept m_lanes m_sizes m_items m_moved) (wM cy m0 m1 m2 m3 m4 m5 m6 m7 m8 m9 m10 m_now m_tape m_typed m_place m_isFault m_readWet m_readHarvest m_read m_undone m_undos m_bestGain m_aside m_kept m_keptUndos m_isKept m_lanes m_sizes m_items m_moved) r := by
  refine CI.of (by decide) (Nat.le_of_ble_eq_true rfl) ?_
  intro p e s m args below meth c A ls Q F hret hw hl
  have hx := F.1
  have hb := F.2.1
  have hl : lv_has ls 7 [(0, .ref m0), (1, .int i1), (2, .int i2)] := hl
  rw [fX6_longest] at h0
  refine lv_aload_n hx hb dX6_longest_0 rfl (lv_at hl 0 rfl) ?_
  refine lv_iload_n hx hb dX6_longest_1 rfl (lv_at hl 1 rfl) ?_
  obtain ⟨r1, k2, h66⟩ := ob1 h0
  clear h0
  refine g_vi F (cX6_isPerson_ok l d cy m0 m1 m2 m3 m4 m5 m6 m7 m8 m9 m10 m_now m_tape m_typed m_place m_isFault m_readWet m_readHarvest m_read m_undone m_undos m_bestGain m_aside m_kept m_keptUndos m_isKept m_lanes m_sizes m_items m_moved i1 r1 k2) cal_X6_isPerson t_804 rfl ⟨by decide, by decide⟩ hw (w' := wM cy m0 m1 m2 m3 m4 m5 m6 m7 m8 m9 m10 m_now m_tape m_typed m_place m_isFault m_readWet m_readHarvest m_read m_undone m_undos m_bestGain m_aside m_kept m_keptUndos m_isKept m_lanes m_sizes m_items m_moved) Cut.all 0 6 rfl rfl hl.1 (Nat.le_of_ble_eq_true rfl) rfl dX6_longest_2 (fun H locs hw => ?_)
  refine lv_if_eq (tgt := 18) hx hb dX6_longest_5 (by decide) (fun c3 => ?_) (fun c3 => ?_)
  · rw [if_pos c3] at h66
    refine lv_iconst (v := (-1)) hx hb dX6_longest_18 (by decide) ?_
    obtain rfl := inj1 h66
    exact hret _ _ _ _ hw dX6_longest_19
  · rw [if_neg c3] at h66
    refine lv_iload_n hx hb dX6_longest_8 rfl (lv_at hl 2 rfl) ?_
    refine lv_i2l hx hb dX6_longest_9 rfl ?_
    refine lv_lconst (v := 0) hx hb dX6_longest_10 (by decide) ?_
    refine lv_lconst (v := 1) hx hb dX6_longest_11 (by decide) ?_
    obtain ⟨r4, k5, h67⟩ := ob1 h66
    clear h66
    refine g_si F (cX6_in_ok l d cy (Int32.toInt64 i2) 0 1 r4 k5) cal_X6_in t_793 rfl ⟨by decide, by decide⟩ hw (w' := wM cy m0 m1 m2 m3 m4 m5 m6 m7 m8 m9 m10 m_now m_tape m_typed m_place m_isFault m_readWet m_readHarvest m_read m_undone m_undos m_bestGain m_aside m_kept m_keptUndos m_isKept m_lanes m_sizes m_items m_moved) Cut.nil hl.1 (Nat.le_of_ble_eq_true rfl) rfl dX6_longest_12 (fun H locs hw => ?_)
    refine lv_if_ne (tgt := 20) hx hb dX6_longest_15 (by decide) (fun c6 => ?_) (fun c6 => ?_)
    · rw [if_neg c6] at h67
      refine lv_iconst (v := 0) hx hb dX6_longest_20 (by decide) ?_
      refine lv_istore_n (lv' := [(3, .int 0), (0, .ref m0), (1, .int i1), (2, .int i2)]) hx hb dX6_longest_21 rfl hl (by decide) rfl (fun ls hl => ?_)
      refine lv_bipush (v := (-4)) hx hb dX6_longest_22 (by decide) ?_
      refine lv_istore (lv' := [(4, .int (-4)), (3, .int 0), (0, .ref m0), (1, .int i1), (2, .int i2)]) hx hb dX6_longest_24 hl (by decide) rfl (fun ls hl => ?_)
      refine lv_iconst (v := 0) hx hb dX6_longest_26 (by decide) ?_
      refine lv_istore (lv' := [(5, .int 0), (4, .int (-4)), (3, .int 0), (0, .ref m0), (1, .int i1), (2, .int i2)]) hx hb dX6_longest_27 hl (by decide) rfl (fun ls hl => ?_)
      refine lv_iconst (v := 0) hx hb dX6_longest_29 (by decide) ?_
      refine lv_istore (lv' := [(6, .int 0), (5, .int 0), (4, .int (-4)), (3, .int 0), (0, .ref m0), (1, .int i1), (2, .int i2)]) hx hb dX6_longest_30 hl (by decide) rfl (fun ls hl => ?_)
      obtain ⟨o48, o49, h68, h69⟩ := ob2 h67
      clear h67
      have kont45 : ∀ (H : Heap) (locs : List Loc) (ls : Array Slot), Wd d A s.heap (wM cy m0 m1 m2 m3 m4 m5 m6 m7 m8 m9 m10 m_now m_tape m_typed m_place m_isFault m_readWet m_readHarvest m_read m_undone m_undos m_bestGain m_aside m_kept m_keptUndos m_isKept m_lanes m_sizes m_items m_moved) H locs → lv_has ls 7 [(2, .int i2), (3, .int o48), (4, .int o49)] → W p l e (rmo 2 46) s m args below meth c H locs 0 0 Q (F0 m 98 ls []) := by
        intro H locs ls hw hl
        clear h68
        refine lv_iload_n hx hb dX6_longest_98 rfl (lv_at hl 0 rfl) ?_
        refine lv_if_ne (tgt := 106) hx hb dX6_longest_99 (by decide) (fun c65 => ?_) (fun c65 => ?_)
        · rw [if_neg c65] at h69
          refine lv_iload hx hb dX6_longest_106 (lv_at hl 2 rfl) ?_
          obtain rfl := inj1 h69
          exact hret _ _ _ _ hw dX6_longest_108
        · rw [if_pos c65] at h69
          refine lv_iload_n hx hb dX6_longest_102 rfl (lv_at hl 1 rfl) ?_
          refine lv_goto (tgt := 108) hx hb dX6_longest_103 (by decide) ?_
          obtain rfl := inj1 h69
          exact hret _ _ _ _ hw dX6_longest_108
      clear h69
      have loop47 : ∀ (n : Nat) (v41 : Int32) (v42 : Int32) (v43 : Int32) (v44 : Int32) (H : Heap) (locs : List Loc) (ls : Array Slot), Wd d A s.heap (wM cy m0 m1 m2 m3 m4 m5 m6 m7 m8 m9 m10 m_now m_tape m_typed m_place m_isFault m_readWet m_readHarvest m_read m_undone m_undos m_bestGain m_aside m_kept m_keptUndos m_isKept m_lanes m_sizes m_items m_moved) H locs → lv_has ls 7 [(0, .ref m0), (1, .int i1), (2, .int i2), (3, .int v41), (4, .int v42), (5, .int v43), (6, .int v44)] → fX6_longest_L32 i1 m_now n v41 v42 v43 v44 = some (o48, o49) → W p l e (rmo 2 46) s m args below meth c H locs 0 0 Q (F0 m 32 ls []) := by
        intro n
        induction n with
        | zero =>
          intro v41 v42 v43 v44 H locs ls hw hl h70
          rw [fX6_longest_L32] at h70
          cases h70
        | succ n ih46 =>
          intro v41 v42 v43 v44 H locs ls hw hl h71
          rw [fX6_longest_L32] at h71
          refine lv_iload hx hb dX6_longest_32 (lv_at hl 6 rfl) ?_
          refine lv_bipush (v := 12) hx hb dX6_longest_34 (by decide) ?_
          refine lv_icmp_ge (tgt := 98) hx hb dX6_longest_36 (by decide) (fun c50 => ?_) (fun c50 => ?_)
          · rw [if_pos c50] at h71
            obtain ⟨rfl, rfl⟩ := inj2 h71
            exact kont45 _ _ _ hw (lv_sub hl [2, 3, 4] rfl)
          · rw [if_neg c50] at h71
            refine lv_aload_n hx hb dX6_longest_39 rfl (lv_at hl 0 rfl) ?_
            refine lv_iload_n hx hb dX6_longest_40 rfl (lv_at hl 1 rfl) ?_
            refine lv_iload hx hb dX6_longest_41 (lv_at hl 6 rfl) ?_
            obtain ⟨r51, k52, h72⟩ := ob1 h71
            clear h71
            refine g_vi F (cX6_hasOne_ok l d cy m0 m1 m2 m3 m4 m5 m6 m7 m8 m9 m10 m_now m_tape m_typed m_place m_isFault m_readWet m_readHarvest m_read m_undone m_undos m_bestGain m_aside m_kept m_keptUndos m_isKept m_lanes m_sizes m_items m_moved i1 v44 r51 k52) cal_X6_hasOne t_826 rfl ⟨by decide, by decide⟩ hw (w' := wM cy m0 m1 m2 m3 m4 m5 m6 m7 m8 m9 m10 m_now m_tape m_typed m_place m_isFault m_readWet m_readHarvest m_read m_undone m_undos m_bestGain m_aside m_kept m_keptUndos m_isKept m_lanes m_sizes m_items m_moved) Cut.all 0 6 rfl rfl hl.1 (Nat.le_of_ble_eq_true rfl) rfl dX6_longest_43 (fun H locs hw => ?_)
            obtain ⟨x54, h73, h74⟩ := ob1 h72
            clear h72
            have kont55 : ∀ (H : Heap) (locs : List Loc) (ls : Array Slot), Wd d A s.heap (wM cy m0 m1 m2 m3 m4 m5 m6 m7 m8 m9 m10 m_now m_tape m_typed m_place m_isFault m_readWet m_readHarvest m_read m_undone m_undos m_bestGain m_aside m_kept m_keptUndos m_isKept m_lanes m_sizes m_items m_moved) H locs → lv_has ls 7 [(0, .ref m0), (1, .int i1), (2, .int i2), (3, .int v41), (4, .int v42), (6, .int v44)] → W p l e (rmo 2 46) s m args below meth c H locs 0 0 Q (F0 m 57 ls [.int x54]) := by
              intro H locs ls hw hl
              clear h73
              refine lv_istore (lv' := [(5, .int x54), (0, .ref m0), (1, .int i1), (2, .int i2), (3, .int v41), (4, .int v42), (6, .int v44)]) hx hb dX6_longest_57 hl (by decide) rfl (fun ls hl => ?_)
              refine lv_iload hx hb dX6_longest_59 (lv_at hl 0 rfl) ?_
              refine lv_iload_n hx hb dX6_longest_61 rfl (lv_at hl 4 rfl) ?_
              obtain ⟨x58, h75, h76⟩ := ob1 h74
              clear h74
              have kont59 : ∀ (H : Heap) (locs : List Loc) (ls : Array Slot), Wd d A s.heap (wM cy m0 m1 m2 m3 m4 m5 m6 m7 m8 m9 m10 m_now m_tape m_typed m_place m_isFault m_readWet m_readHarvest m_read m_undone m_undos m_bestGain m_aside m_kept m_keptUndos m_isKept m_lanes m_sizes m_items m_moved) H locs → lv_has ls 7 [(0, .ref m0), (1, .int i1), (2, .int i2), (3, .int v41), (5, .int x54), (6, .int v44)] → W p l e (rmo 2 46) s m args below meth c H locs 0 0 Q (F0 m 77 ls [.int x58]) := by
                intro H locs ls hw hl
                clear h75
                refine lv_istore (lv' := [(4, .int x58), (0, .ref m0), (1, .int i1), (2, .int i2), (3, .int v41), (5, .int x54), (6, .int v44)]) hx hb dX6_longest_77 hl (by decide) rfl (fun ls hl => ?_)
                refine lv_iload hx hb dX6_longest_79 (lv_at hl 5 rfl) ?_
                refine lv_iload_n hx hb dX6_longest_81 rfl (lv_at hl 4 rfl) ?_
                obtain ⟨x62, h77, h78⟩ := ob1 h76
                clear h76
                have kont63 : ∀ (H : Heap) (locs : List Loc) (ls : Array Slot), Wd d A s.heap (wM cy m0 m1 m2 m3 m4 m5 m6 m7 m8 m9 m10 m_now m_tape m_typed m_place m_isFault m_readWet m_readHarvest m_read m_undone m_undos m_bestGain m_aside m_kept m_keptUndos m_isKept m_lanes m_sizes m_items m_moved) H locs → lv_has ls 7 [(0, .ref m0), (1, .int i1), (2, .int i2), (4, .int x58), (5, .int x54), (6, .int v44)] → W p l e (rmo 2 46) s m args below meth c H locs 0 0 Q (F0 m 91 ls [.int x62]) := by
                  intro H locs ls hw hl
                  clear h77
                  refine lv_istore_n (lv' := [(3, .int x62), (0, .ref m0), (1, .int i1), (2, .int i2), (4, .int x58), (5, .int x54), (6, .int v44)]) hx hb dX6_longest_91 rfl hl (by decide) rfl (fun ls hl => ?_)
                  refine lv_iinc (v := (v44 + 1)) (lv' := [(6, .int (v44 + 1)), (3, .int x62), (0, .ref m0), (1, .int i1), (2, .int i2), (4, .int x58), (5, .int x54)]) hx hb dX6_longest_92 hl (k := 6) rfl rfl (by decide) rfl (fun ls hl => ?_)
                  refine lv_goto (tgt := 32) hx hb dX6_longest_95 (by decide) ?_
                  exact ih46 x62 x58 x54 (v44 + 1) _ _ _ hw (lv_sub hl [2, 3, 4, 1, 5, 6, 0] rfl) h78
                clear h78
                refine lv_icmp_le (tgt := 90) hx hb dX6_longest_82 (by decide) (fun c64 => ?_) (fun c64 => ?_)
                · rw [if_pos c64] at h77
                  refine lv_iload_n hx hb dX6_longest_90 rfl (lv_at hl 4 rfl) ?_
                  obtain rfl := inj1 h77
                  exact kont63 _ _ _ hw (lv_sub hl [1, 2, 3, 0, 5, 6] rfl)
                · rw [if_neg c64] at h77
                  refine lv_iload hx hb dX6_longest_85 (lv_at hl 5 rfl) ?_
                  refine lv_goto (tgt := 91) hx hb dX6_longest_87 (by decide) ?_
                  obtain rfl := inj1 h77
                  exact kont63 _ _ _ hw (lv_sub hl [1, 2, 3, 0, 5, 6] rfl)
              clear h76
              refine lv_icmp_le (tgt := 75) hx hb dX6_longest_62 (by decide) (fun c60 => ?_) (fun c60 => ?_)
              · rw [if_pos c60] at h75
                refine lv_iload hx hb dX6_longest_75 (lv_at hl 5 rfl) ?_
                obtain rfl := inj1 h75
                exact kont59 _ _ _ hw (lv_sub hl [1, 2, 3, 4, 0, 6] rfl)
              · rw [if_neg c60] at h75
                refine lv_iload hx hb dX6_longest_65 (lv_at hl 6 rfl) ?_
                refine lv_iload hx hb dX6_longest_67 (lv_at hl 0 rfl) ?_
                refine lv_isub hx hb dX6_longest_69 ?_
                refine lv_iconst (v := 1) hx hb dX6_longest_70 (by decide) ?_
                refine lv_iadd hx hb dX6_longest_71 ?_
                refine lv_goto (tgt := 77) hx hb dX6_longest_72 (by decide) ?_
                obtain rfl := inj1 h75
                exact kont59 _ _ _ hw (lv_sub hl [1, 2, 3, 4, 0, 6] rfl)
            clear h74
            refine lv_if_eq (tgt := 56) hx hb dX6_longest_46 (by decide) (fun c56 => ?_) (fun c56 => ?_)
            · rw [if_pos c56] at h73
              refine lv_iconst (v := 0) hx hb dX6_longest_56 (by decide) ?_
              obtain rfl := inj1 h73
              exact kont55 _ _ _ hw (lv_sub hl [0, 1, 2, 3, 4, 6] rfl)
            · rw [if_neg c56] at h73
              refine lv_iload hx hb dX6_longest_49 (lv_at hl 5 rfl) ?_
              refine lv_iconst (v := 1) hx hb dX6_longest_51 (by decide) ?_
              refine lv_iadd hx hb dX6_longest_52 ?_
              refine lv_goto (tgt := 57) hx hb dX6_longest_53 (by decide) ?_
              obtain rfl := inj1 h73
              exact kont55 _ _ _ hw (lv_sub hl [0, 1, 2, 3, 4, 6] rfl)
      exact loop47 fl 0 (-4) 0 0 _ _ _ hw (lv_sub hl [4, 5, 6, 3, 2, 1, 0] rfl) h68
    · rw [if_pos c6] at h67
      refine lv_iconst (v := (-1)) hx hb dX6_longest_18 (by decide) ?_
      obtain rfl := inj1 h67
      exact hret _ _ _ _ hw dX6_longest_19
theorem cal_X6_stretch : CalV yX6_stretch cX6_stretch 10 (some .int) RX6 3 := ⟨t_1022, t_1020, t_1021, t_43, by decide +kernel⟩
set_option maxHeartbeats 4000000 in
set_option maxRecDepth 100000 in
theorem cX6_stretch_ok (l : Launch) (d : va_G) (cy : Nat → ClassId) (m0 m1 m2 m3 m4 m5 m6 m7 m8 m9 m10 : Nat) (m_now : Nat → Int32) (m_tape : Nat → Int32) (m_typed : Int32) (m_place : Int32) (m_isFault : Int32) (m_readWet : Int32) (m_readHarvest : Int32) (m_read : Nat → Int32) (m_undone : Nat → Int32) (m_undos : Int32) (m_bestGain : Int32) (m_aside : Nat → Int32) (m_kept : Nat → Int32) (m_keptUndos : Int32) (m_isKept : Int32) (m_lanes : Nat → Int32) (m_sizes : Nat → Int32) (m_items : Nat → Int64) (m_moved : Nat → Int64) (i1 : Int32) (i2 : Int32) (i3 : Int32) (r : Int32) (h0 : fX6_stretch m_now i1 i2 i3 = some (r)) : CI l yX6_stretch cX6_stretch 10 (some .int) 3 67 d cy [.ref m0, .int i1, .int i2, .int i3] (wM cy m0 m1 m2 m3 m4 m5 m6 m7 m8 m9 m10 m_now m_tape m_typed m_place m_isFault m_readWet m_readHarvest m_read m_undone m_undos m_bestGain m_aside m_kept m_keptUndos m_isKept m_lanes m_sizes m_items m_moved) (wM cy m0 m1 m2 m3 m4 m5 m6 m7 m8 m9 m10 m_now m_tape m_typed m_place m_isFault m_readWet m_readHarvest m_read m_undone m_undos m_bestGain m_aside m_kept m_keptUndos m_isKept m_lanes m_sizes m_items m_moved) r := by
  refine CI.of (by decide) (Nat.le_of_ble_eq_true rfl) ?_
  intro p e s m args below meth c A ls Q F hret hw hl
  have hx := F.1
  have hb := F.2.1
  have hl : lv_has ls 10 [(0, .ref m0), (1, .int i1), (2, .int i2), (3, .int i3)] := hl
  rw [fX6_stretch] at h0
  refine lv_aload_n hx hb dX6_stretch_0 rfl (lv_at hl 0 rfl) ?_
  refine lv_iload_n hx hb dX6_stretch_1 rfl (lv_at hl 1 rfl) ?_
  obtain ⟨r1, k2, h69⟩ := ob1 h0
  clear h0
  refine g_vi F (cX6_isPerson_ok l d cy m0 m1 m2 m3 m4 m5 m6 m7 m8 m9 m10 m_now m_tape m_typed m_place m_isFault m_readWet m_readHarvest m_read m_undone m_undos m_bestGain m_aside m_kept m_keptUndos m_isKept m_lanes m_sizes m_items m_moved i1 r1 k2) cal_X6_isPerson t_804 rfl ⟨by decide, by decide⟩ hw (w' := wM cy m0 m1 m2 m3 m4 m5 m6 m7 m8 m9 m10 m_now m_tape m_typed m_place m_isFault m_readWet m_readHarvest m_read m_undone m_undos m_bestGain m_aside m_kept m_keptUndos m_isKept m_lanes m_sizes m_items m_moved) Cut.all 0 6 rfl rfl hl.1 (Nat.le_of_ble_eq_true rfl) rfl dX6_stretch_2 (fun H locs hw => ?_)
  refine lv_if_eq (tgt := 30) hx hb dX6_stretch_5 (by decide) (fun c3 => ?_) (fun c3 => ?_)
  · rw [if_pos c3] at h69
    refine lv_iconst (v := (-1)) hx hb dX6_stretch_30 (by decide) ?_
    obtain rfl := inj1 h69
    exact hret _ _ _ _ hw dX6_stretch_31
  · rw [if_neg c3] at h69
    refine lv_iload_n hx hb dX6_stretch_8 rfl (lv_at hl 2 rfl) ?_
    refine lv_i2l hx hb dX6_stretch_9 rfl ?_
    refine lv_lconst (v := 1) hx hb dX6_stretch_10 (by decide) ?_
    refine lv_ldc2 (v := 12) hx hb F.2.2.2.2.2.1 (F.2.2.2.2.2.2.1 _ t_816) dX6_stretch_11 ?_
    obtain ⟨r4, k5, h70⟩ := ob1 h69
    clear h69
    refine g_si F (cX6_in_ok l d cy (Int32.toInt64 i2) 1 12 r4 k5) cal_X6_in t_793 rfl ⟨by decide, by decide⟩ hw (w' := wM cy m0 m1 m2 m3 m4 m5 m6 m7 m8 m9 m10 m_now m_tape m_typed m_place m_isFault m_readWet m_readHarvest m_read m_undone m_undos m_bestGain m_aside m_kept m_keptUndos m_isKept m_lanes m_sizes m_items m_moved) Cut.nil hl.1 (Nat.le_of_ble_eq_true rfl) rfl dX6_stretch_14 (fun H locs hw => ?_)
    refine lv_if_eq (tgt := 30) hx hb dX6_stretch_17 (by decide) (fun c6 => ?_) (fun c6 => ?_)
    · rw [if_pos c6] at h70
      refine lv_iconst (v := (-1)) hx hb dX6_stretch_30 (by decide) ?_
      obtain rfl := inj1 h70
      exact hret _ _ _ _ hw dX6_stretch_31
    · rw [if_neg c6] at h70
      refine lv_iload_n hx hb dX6_stretch_20 rfl (lv_at hl 3 rfl) ?_
      refine lv_i2l hx hb dX6_stretch_21 rfl ?_
      refine lv_lconst (v := 0) hx hb dX6_stretch_22 (by decide) ?_
      refine lv_lconst (v := 1) hx hb dX6_stretch_23 (by decide) ?_
      obtain ⟨r7, k8, h71⟩ := ob1 h70
      clear h70
      refine g_si F (cX6_in_ok l d cy (Int32.toInt64 i3) 0 1 r7 k8) cal_X6_in t_793 rfl ⟨by decide, by decide⟩ hw (w' := wM cy m0 m1 m2 m3 m4 m5 m6 m7 m8 m9 m10 m_now m_tape m_typed m_place m_isFault m_readWet m_readHarvest m_read m_undone m_undos m_bestGain m_aside m_kept m_keptUndos m_isKept m_lanes m_sizes m_items m_moved) Cut.nil hl.1 (Nat.le_of_ble_eq_true rfl) rfl dX6_stretch_24 (fun H locs hw => ?_)
      refine lv_if_ne (tgt := 32) hx hb dX6_stretch_27 (by decide) (fun c9 => ?_) (fun c9 => ?_)
      · rw [if_neg c9] at h71
        refine lv_aload_n hx hb dX6_stretch_32 rfl (lv_at hl 0 rfl) ?_
        refine lv_iload_n hx hb dX6_stretch_33 rfl (lv_at hl 1 rfl) ?_
        obtain ⟨r10, k11, h72⟩ := ob1 h71
        clear h71
        refine g_vi F (cX6_halves_ok l d cy m0 m1 m2 m3 m4 m5 m6 m7 m8 m9 m10 m_now m_tape m_typed m_place m_isFault m_readWet m_readHarvest m_read m_undone m_undos m_bestGain m_aside m_kept m_keptUndos m_isKept m_lanes m_sizes m_items m_moved i1 r10 k11) cal_X6_halves t_822 rfl ⟨by decide, by decide⟩ hw (w' := wM cy m0 m1 m2 m3 m4 m5 m6 m7 m8 m9 m10 m_now m_tape m_typed m_place m_isFault m_readWet m_readHarvest m_read m_undone m_undos m_bestGain m_aside m_kept m_keptUndos m_isKept m_lanes m_sizes m_items m_moved) Cut.all 0 6 rfl rfl hl.1 (Nat.le_of_ble_eq_true rfl) rfl dX6_stretch_34 (fun H locs hw => ?_)
        refine lv_istore (lv' := [(4, .int r10), (0, .ref m0), (1, .int i1), (2, .int i2), (3, .int i3)]) hx hb dX6_stretch_37 hl (by decide) rfl (fun ls hl => ?_)
        refine lv_bipush (v := 99) hx hb dX6_stretch_39 (by decide) ?_
        refine lv_istore (lv' := [(5, .int 99), (4, .int r10), (0, .ref m0), (1, .int i1), (2, .int i2), (3, .int i3)]) hx hb dX6_stretch_41 hl (by decide) rfl (fun ls hl => ?_)
        refine lv_iconst (v := 0) hx hb dX6_stretch_43 (by decide) ?_
        refine lv_istore (lv' := [(6, .int 0), (5, .int 99), (4, .int r10), (0, .ref m0), (1, .int i1), (2, .int i2), (3, .int i3)]) hx hb dX6_stretch_44 hl (by decide) rfl (fun ls hl => ?_)
        refine lv_iconst (v := 0) hx hb dX6_stretch_46 (by decide) ?_
        refine lv_istore (lv' := [(7, .int 0), (6, .int 0), (5, .int 99), (4, .int r10), (0, .ref m0), (1, .int i1), (2, .int i2), (3, .int i3)]) hx hb dX6_stretch_47 hl (by decide) rfl (fun ls hl => ?_)
        obtain ⟨o55, o56, h73, h74⟩ := ob2 h72
        clear h72
        have kont52 : ∀ (H : Heap) (locs : List Loc) (ls : Array Slot), Wd d A s.heap (wM cy m0 m1 m2 m3 m4 m5 m6 m7 m8 m9 m10 m_now m_tape m_typed m_place m_isFault m_readWet m_readHarvest m_read m_undone m_undos m_bestGain m_aside m_kept m_keptUndos m_isKept m_lanes m_sizes m_items m_moved) H locs → lv_has ls 10 [(3, .int i3), (5, .int o55), (6, .int o56)] → W p l e (rmo 3 67) s m args below meth c H locs 0 0 Q (F0 m 118 ls []) := by
          intro H locs ls hw hl
          clear h73
          refine lv_iload_n hx hb dX6_stretch_118 rfl (lv_at hl 0 rfl) ?_
          refine lv_if_ne (tgt := 127) hx hb dX6_stretch_119 (by decide) (fun c68 => ?_) (fun c68 => ?_)
          · rw [if_neg c68] at h74
            refine lv_iload hx hb dX6_stretch_127 (lv_at hl 2 rfl) ?_
            obtain rfl := inj1 h74
            exact hret _ _ _ _ hw dX6_stretch_129
          · rw [if_pos c68] at h74
            refine lv_iload hx hb dX6_stretch_122 (lv_at hl 1 rfl) ?_
            refine lv_goto (tgt := 129) hx hb dX6_stretch_124 (by decide) ?_
            obtain rfl := inj1 h74
            exact hret _ _ _ _ hw dX6_stretch_129
        clear h74
        have loop54 : ∀ (n : Nat) (v49 : Int32) (v50 : Int32) (v51 : Int32) (H : Heap) (locs : List Loc) (ls : Array Slot), Wd d A s.heap (wM cy m0 m1 m2 m3 m4 m5 m6 m7 m8 m9 m10 m_now m_tape m_typed m_place m_isFault m_readWet m_readHarvest m_read m_undone m_undos m_bestGain m_aside m_kept m_keptUndos m_isKept m_lanes m_sizes m_items m_moved) H locs → lv_has ls 10 [(2, .int i2), (3, .int i3), (4, .int r10), (5, .int v49), (6, .int v50), (7, .int v51)] → fX6_stretch_L49 i2 r10 n v49 v50 v51 = some (o55, o56) → W p l e (rmo 3 67) s m args below meth c H locs 0 0 Q (F0 m 49 ls []) := by
          intro n
          induction n with
          | zero =>
            intro v49 v50 v51 H locs ls hw hl h75
            rw [fX6_stretch_L49] at h75
            cases h75
          | succ n ih53 =>
            intro v49 v50 v51 H locs ls hw hl h76
            rw [fX6_stretch_L49] at h76
            refine lv_iload hx hb dX6_stretch_49 (lv_at hl 5 rfl) ?_
            refine lv_iload_n hx hb dX6_stretch_51 rfl (lv_at hl 0 rfl) ?_
            refine lv_iadd hx hb dX6_stretch_52 ?_
            refine lv_bipush (v := 12) hx hb dX6_stretch_53 (by decide) ?_
            refine lv_icmp_gt (tgt := 118) hx hb dX6_stretch_55 (by decide) (fun c57 => ?_) (fun c57 => ?_)
            · rw [if_pos c57] at h76
              obtain ⟨rfl, rfl⟩ := inj2 h76
              exact kont52 _ _ _ hw (lv_sub hl [1, 3, 4] rfl)
            · rw [if_neg c57] at h76
              refine lv_iconst (v := 1) hx hb dX6_stretch_58 (by decide) ?_
              refine lv_iload_n hx hb dX6_stretch_59 rfl (lv_at hl 0 rfl) ?_
              refine lv_ishl hx hb dX6_stretch_60 ?_
              refine lv_iconst (v := 1) hx hb dX6_stretch_61 (by decide) ?_
              refine lv_isub hx hb dX6_stretch_62 ?_
              refine lv_iload hx hb dX6_stretch_63 (lv_at hl 5 rfl) ?_
              refine lv_ishl hx hb dX6_stretch_65 ?_
              refine lv_istore (lv' := [(8, .int ((((1 : Int32) <<< (i2 &&& 31)) - 1) <<< (v51 &&& 31))), (2, .int i2), (3, .int i3), (4, .int r10), (5, .int v49), (6, .int v50), (7, .int v51)]) hx hb dX6_stretch_66 hl (by decide) rfl (fun ls hl => ?_)
              refine lv_iload hx hb dX6_stretch_68 (lv_at hl 0 rfl) ?_
              refine lv_iload hx hb dX6_stretch_70 (lv_at hl 3 rfl) ?_
              refine lv_iconst (v := (-1)) hx hb dX6_stretch_72 (by decide) ?_
              refine lv_ixor hx hb dX6_stretch_73 ?_
              refine lv_iand hx hb dX6_stretch_74 ?_
              obtain ⟨r58, k59, h77⟩ := ob1 h76
              clear h76
              refine g_si F (cX6_many_ok l d cy (((((1 : Int32) <<< (i2 &&& 31)) - 1) <<< (v51 &&& 31)) &&& (r10 ^^^ (-1))) r58 k59) cal_X6_many t_931 rfl ⟨by decide, by decide⟩ hw (w' := wM cy m0 m1 m2 m3 m4 m5 m6 m7 m8 m9 m10 m_now m_tape m_typed m_place m_isFault m_readWet m_readHarvest m_read m_undone m_undos m_bestGain m_aside m_kept m_keptUndos m_isKept m_lanes m_sizes m_items m_moved) Cut.nil hl.1 (Nat.le_of_ble_eq_true rfl) rfl dX6_stretch_75 (fun H locs hw => ?_)
              refine lv_istore (lv' := [(9, .int r58), (8, .int ((((1 : Int32) <<< (i2 &&& 31)) - 1) <<< (v51 &&& 31))), (2, .int i2), (3, .int i3), (4, .int r10), (5, .int v49), (6, .int v50), (7, .int v51)]) hx hb dX6_stretch_78 hl (by decide) rfl (fun ls hl => ?_)
              refine lv_iload hx hb dX6_stretch_80 (lv_at hl 0 rfl) ?_
              refine lv_iload hx hb dX6_stretch_82 (lv_at hl 5 rfl) ?_
              obtain ⟨x61, h78, h79⟩ := ob1 h77
              clear h77
              have kont62 : ∀ (H : Heap) (locs : List Loc) (ls : Array Slot), Wd d A s.heap (wM cy m0 m1 m2 m3 m4 m5 m6 m7 m8 m9 m10 m_now m_tape m_typed m_place m_isFault m_readWet m_readHarvest m_read m_undone m_undos m_bestGain m_aside m_kept m_keptUndos m_isKept m_lanes m_sizes m_items m_moved) H locs → lv_has ls 10 [(2, .int i2), (3, .int i3), (4, .int r10), (5, .int v49), (7, .int v51), (9, .int r58)] → W p l e (rmo 3 67) s m args below meth c H locs 0 0 Q (F0 m 94 ls [.int x61]) := by
                intro H locs ls hw hl
                clear h78
                refine lv_istore (lv' := [(6, .int x61), (2, .int i2), (3, .int i3), (4, .int r10), (5, .int v49), (7, .int v51), (9, .int r58)]) hx hb dX6_stretch_94 hl (by decide) rfl (fun ls hl => ?_)
                refine lv_iload hx hb dX6_stretch_96 (lv_at hl 6 rfl) ?_
                refine lv_iload hx hb dX6_stretch_98 (lv_at hl 4 rfl) ?_
                obtain ⟨x65, h80, h81⟩ := ob1 h79
                clear h79
                have kont66 : ∀ (H : Heap) (locs : List Loc) (ls : Array Slot), Wd d A s.heap (wM cy m0 m1 m2 m3 m4 m5 m6 m7 m8 m9 m10 m_now m_tape m_typed m_place m_isFault m_readWet m_readHarvest m_read m_undone m_undos m_bestGain m_aside m_kept m_keptUndos m_isKept m_lanes m_sizes m_items m_moved) H locs → lv_has ls 10 [(2, .int i2), (3, .int i3), (4, .int r10), (6, .int x61), (7, .int v51)] → W p l e (rmo 3 67) s m args below meth c H locs 0 0 Q (F0 m 110 ls [.int x65]) := by
                  intro H locs ls hw hl
                  clear h80
                  refine lv_istore (lv' := [(5, .int x65), (2, .int i2), (3, .int i3), (4, .int r10), (6, .int x61), (7, .int v51)]) hx hb dX6_stretch_110 hl (by decide) rfl (fun ls hl => ?_)
                  refine lv_iinc (v := (v51 + 1)) (lv' := [(7, .int (v51 + 1)), (5, .int x65), (2, .int i2), (3, .int i3), (4, .int r10), (6, .int x61)]) hx hb dX6_stretch_112 hl (k := 5) rfl rfl (by decide) rfl (fun ls hl => ?_)
                  refine lv_goto (tgt := 49) hx hb dX6_stretch_115 (by decide) ?_
                  exact ih53 x65 x61 (v51 + 1) _ _ _ hw (lv_sub hl [2, 3, 4, 1, 5, 0] rfl) h81
                clear h81
                refine lv_icmp_ge (tgt := 108) hx hb dX6_stretch_100 (by decide) (fun c67 => ?_) (fun c67 => ?_)
                · rw [if_pos c67] at h80
                  refine lv_iload hx hb dX6_stretch_108 (lv_at hl 4 rfl) ?_
                  obtain rfl := inj1 h80
                  exact kont66 _ _ _ hw (lv_sub hl [1, 2, 3, 0, 5] rfl)
                · rw [if_neg c67] at h80
                  refine lv_iload hx hb dX6_stretch_103 (lv_at hl 6 rfl) ?_
                  refine lv_goto (tgt := 110) hx hb dX6_stretch_105 (by decide) ?_
                  obtain rfl := inj1 h80
                  exact kont66 _ _ _ hw (lv_sub hl [1, 2, 3, 0, 5] rfl)
              clear h79
              refine lv_icmp_ge (tgt := 92) hx hb dX6_stretch_84 (by decide) (fun c63 => ?_) (fun c63 => ?_)
              · rw [if_pos c63] at h78
                refine lv_iload hx hb dX6_stretch_92 (lv_at hl 6 rfl) ?_
                obtain rfl := inj1 h78
                exact kont62 _ _ _ hw (lv_sub hl [2, 3, 4, 5, 7, 0] rfl)
              · rw [if_neg c63] at h78
                refine lv_iload hx hb dX6_stretch_87 (lv_at hl 7 rfl) ?_
                refine lv_goto (tgt := 94) hx hb dX6_stretch_89 (by decide) ?_
                obtain rfl := inj1 h78
                exact kont62 _ _ _ hw (lv_sub hl [2, 3, 4, 5, 7, 0] rfl)
        exact loop54 fl 99 0 0 _ _ _ hw (lv_sub hl [6, 7, 3, 2, 1, 0] rfl) h73
      · rw [if_pos c9] at h71
        refine lv_iconst (v := (-1)) hx hb dX6_stretch_30 (by decide) ?_
        obtain rfl := inj1 h71
        exact hret _ _ _ _ hw dX6_stretch_31
theorem cal_X6_more : CalV yX6_more cX6_more 10 (some .int) RX6 4 := ⟨t_1026, t_1024, t_1025, t_43, by decide +kernel⟩
set_option maxHeartbeats 4000000 in
set_option maxRecDepth 100000 in
theorem cX6_more_ok (l : Launch) (d : va_G) (cy : Nat → ClassId) (m0 m1 m2 m3 m4 m5 m6 m7 m8 m9 m10 : Nat) (m_now : Nat → Int32) (m_tape : Nat → Int32) (m_typed : Int32) (m_place : Int32) (m_isFault : Int32) (m_readWet : Int32) (m_readHarvest : Int32) (m_read : Nat → Int32) (m_undone : Nat → Int32) (m_undos : Int32) (m_bestGain : Int32) (m_aside : Nat → Int32) (m_kept : Nat → Int32) (m_keptUndos : Int32) (m_isKept : Int32) (m_lanes : Nat → Int32) (m_sizes : Nat → Int32) (m_items : Nat → Int64) (m_moved : Nat → Int64) (i1 : Int32) (i2 : Int32) (i3 : Int32) (i4 : Int32) (r : Int32) (m_now_r : Nat → Int32) (m_aside_r : Nat → Int32) (h0 : fX6_more m_now m_aside i1 i2 i3 i4 = some (r, m_now_r, m_aside_r)) : CI l yX6_more cX6_more 10 (some .int) 5 116 d cy [.ref m0, .int i1, .int i2, .int i3, .int i4] (wM cy m0 m1 m2 m3 m4 m5 m6 m7 m8 m9 m10 m_now m_tape m_typed m_place m_isFault m_readWet m_readHarvest m_read m_undone m_undos m_bestGain m_aside m_kept m_keptUndos m_isKept m_lanes m_sizes m_items m_moved) (wM cy m0 m1 m2 m3 m4 m5 m6 m7 m8 m9 m10 m_now_r m_tape m_typed m_place m_isFault m_readWet m_readHarvest m_read m_undone m_undos m_bestGain m_aside_r m_kept m_keptUndos m_isKept m_lanes m_sizes m_items m_moved) r := by
  refine CI.of (by decide) (Nat.le_of_ble_eq_true rfl) ?_
  intro p e s m args below meth c A ls Q F hret hw hl
  have hx := F.1
  have hb := F.2.1
  have hl : lv_has ls 10 [(0, .ref m0), (1, .int i1), (2, .int i2), (3, .int i3), (4, .int i4)] := hl
  rw [fX6_more] at h0
  refine lv_aload_n hx hb dX6_more_0 rfl (lv_at hl 0 rfl) ?_
  refine lv_iload_n hx hb dX6_more_1 rfl (lv_at hl 1 rfl) ?_
  obtain ⟨r1, k2, h259⟩ := ob1 h0
  clear h0
  refine g_vi F (cX6_isPerson_ok l d cy m0 m1 m2 m3 m4 m5 m6 m7 m8 m9 m10 m_now m_tape m_typed m_place m_isFault m_readWet m_readHarvest m_read m_undone m_undos m_bestGain m_aside m_kept m_keptUndos m_isKept m_lanes m_sizes m_items m_moved i1 r1 k2) cal_X6_isPerson t_804 rfl ⟨by decide, by decide⟩ hw (w' := wM cy m0 m1 m2 m3 m4 m5 m6 m7 m8 m9 m10 m_now m_tape m_typed m_place m_isFault m_readWet m_readHarvest m_read m_undone m_undos m_bestGain m_aside m_kept m_keptUndos m_isKept m_lanes m_sizes m_items m_moved) Cut.all 0 6 rfl rfl hl.1 (Nat.le_of_ble_eq_true rfl) rfl dX6_more_2 (fun H locs hw => ?_)
  refine lv_if_eq (tgt := 43) hx hb dX6_more_5 (by decide) (fun c3 => ?_) (fun c3 => ?_)
  · rw [if_pos c3] at h259
    refine lv_iconst (v := (-1)) hx hb dX6_more_43 (by decide) ?_
    obtain ⟨rfl, rfl, rfl⟩ := inj3 h259
    exact hret _ _ _ _ hw dX6_more_44
  · rw [if_neg c3] at h259
    refine lv_iload_n hx hb dX6_more_8 rfl (lv_at hl 2 rfl) ?_
    refine lv_i2l hx hb dX6_more_9 rfl ?_
    refine lv_lconst (v := 0) hx hb dX6_more_10 (by decide) ?_
    refine lv_ldc2 (v := 4) hx hb F.2.2.2.2.2.1 (F.2.2.2.2.2.2.1 _ t_792) dX6_more_11 ?_
    obtain ⟨r4, k5, h260⟩ := ob1 h259
    clear h259
    refine g_si F (cX6_in_ok l d cy (Int32.toInt64 i2) 0 4 r4 k5) cal_X6_in t_793 rfl ⟨by decide, by decide⟩ hw (w' := wM cy m0 m1 m2 m3 m4 m5 m6 m7 m8 m9 m10 m_now m_tape m_typed m_place m_isFault m_readWet m_readHarvest m_read m_undone m_undos m_bestGain m_aside m_kept m_keptUndos m_isKept m_lanes m_sizes m_items m_moved) Cut.nil hl.1 (Nat.le_of_ble_eq_true rfl) rfl dX6_more_14 (fun H locs hw => ?_)
    refine lv_if_eq (tgt := 43) hx hb dX6_more_17 (by decide) (fun c6 => ?_) (fun c6 => ?_)
    · rw [if_pos c6] at h260
      refine lv_iconst (v := (-1)) hx hb dX6_more_43 (by decide) ?_
      obtain ⟨rfl, rfl, rfl⟩ := inj3 h260
      exact hret _ _ _ _ hw dX6_more_44
    · rw [if_neg c6] at h260
      refine lv_iload_n hx hb dX6_more_20 rfl (lv_at hl 3 rfl) ?_
      refine lv_i2l hx hb dX6_more_21 rfl ?_
      refine lv_lconst (v := 0) hx hb dX6_more_22 (by decide) ?_
      refine lv_ldc2 (v := 20) hx hb F.2.2.2.2.2.1 (F.2.2.2.2.2.2.1 _ t_1027) dX6_more_23 ?_
      obtain ⟨r7, k8, h261⟩ := ob1 h260
      clear h260
      refine g_si F (cX6_in_ok l d cy (Int32.toInt64 i3) 0 20 r7 k8) cal_X6_in t_793 rfl ⟨by decide, by decide⟩ hw (w' := wM cy m0 m1 m2 m3 m4 m5 m6 m7 m8 m9 m10 m_now m_tape m_typed m_place m_isFault m_readWet m_readHarvest m_read m_undone m_undos m_bestGain m_aside m_kept m_keptUndos m_isKept m_lanes m_sizes m_items m_moved) Cut.nil hl.1 (Nat.le_of_ble_eq_true rfl) rfl dX6_more_26 (fun H locs hw => ?_)
      refine lv_if_eq (tgt := 43) hx hb dX6_more_29 (by decide) (fun c9 => ?_) (fun c9 => ?_)
      · rw [if_pos c9] at h261
        refine lv_iconst (v := (-1)) hx hb dX6_more_43 (by decide) ?_
        obtain ⟨rfl, rfl, rfl⟩ := inj3 h261
        exact hret _ _ _ _ hw dX6_more_44
      · rw [if_neg c9] at h261
        refine lv_iload hx hb dX6_more_32 (lv_at hl 4 rfl) ?_
        refine lv_i2l hx hb dX6_more_34 rfl ?_
        refine lv_lconst (v := 0) hx hb dX6_more_35 (by decide) ?_
        refine lv_lconst (v := 1) hx hb dX6_more_36 (by decide) ?_
        obtain ⟨r10, k11, h262⟩ := ob1 h261
        clear h261
        refine g_si F (cX6_in_ok l d cy (Int32.toInt64 i4) 0 1 r10 k11) cal_X6_in t_793 rfl ⟨by decide, by decide⟩ hw (w' := wM cy m0 m1 m2 m3 m4 m5 m6 m7 m8 m9 m10 m_now m_tape m_typed m_place m_isFault m_readWet m_readHarvest m_read m_undone m_undos m_bestGain m_aside m_kept m_keptUndos m_isKept m_lanes m_sizes m_items m_moved) Cut.nil hl.1 (Nat.le_of_ble_eq_true rfl) rfl dX6_more_37 (fun H locs hw => ?_)
        refine lv_if_ne (tgt := 45) hx hb dX6_more_40 (by decide) (fun c12 => ?_) (fun c12 => ?_)
        · rw [if_neg c12] at h262
          refine lv_aload_n hx hb dX6_more_45 rfl (lv_at hl 0 rfl) ?_
          refine lv_iload_n hx hb dX6_more_46 rfl (lv_at hl 1 rfl) ?_
          obtain ⟨r13, k14, h263⟩ := ob1 h262
          clear h262
          refine g_vi F (cX6_halves_ok l d cy m0 m1 m2 m3 m4 m5 m6 m7 m8 m9 m10 m_now m_tape m_typed m_place m_isFault m_readWet m_readHarvest m_read m_undone m_undos m_bestGain m_aside m_kept m_keptUndos m_isKept m_lanes m_sizes m_items m_moved i1 r13 k14) cal_X6_halves t_822 rfl ⟨by decide, by decide⟩ hw (w' := wM cy m0 m1 m2 m3 m4 m5 m6 m7 m8 m9 m10 m_now m_tape m_typed m_place m_isFault m_readWet m_readHarvest m_read m_undone m_undos m_bestGain m_aside m_kept m_keptUndos m_isKept m_lanes m_sizes m_items m_moved) Cut.all 0 6 rfl rfl hl.1 (Nat.le_of_ble_eq_true rfl) rfl dX6_more_47 (fun H locs hw => ?_)
          refine lv_istore (lv' := [(5, .int r13), (0, .ref m0), (1, .int i1), (2, .int i2), (3, .int i3), (4, .int i4)]) hx hb dX6_more_50 hl (by decide) rfl (fun ls hl => ?_)
          refine lv_iconst (v := 0) hx hb dX6_more_52 (by decide) ?_
          refine lv_istore (lv' := [(6, .int 0), (5, .int r13), (0, .ref m0), (1, .int i1), (2, .int i2), (3, .int i3), (4, .int i4)]) hx hb dX6_more_53 hl (by decide) rfl (fun ls hl => ?_)
          refine lv_aload_n hx hb dX6_more_55 rfl (lv_at hl 2 rfl) ?_
          refine lv_iload_n hx hb dX6_more_56 rfl (lv_at hl 3 rfl) ?_
          obtain ⟨r15, k16, h264⟩ := ob1 h263
          clear h263
          refine g_vi F (cX6_worth_ok l d cy m0 m1 m2 m3 m4 m5 m6 m7 m8 m9 m10 m_now m_tape m_typed m_place m_isFault m_readWet m_readHarvest m_read m_undone m_undos m_bestGain m_aside m_kept m_keptUndos m_isKept m_lanes m_sizes m_items m_moved i1 r15 k16) cal_X6_worth t_838 rfl ⟨by decide, by decide⟩ hw (w' := wM cy m0 m1 m2 m3 m4 m5 m6 m7 m8 m9 m10 m_now m_tape m_typed m_place m_isFault m_readWet m_readHarvest m_read m_undone m_undos m_bestGain m_aside m_kept m_keptUndos m_isKept m_lanes m_sizes m_items m_moved) Cut.all 0 6 rfl rfl hl.1 (Nat.le_of_ble_eq_true rfl) rfl dX6_more_57 (fun H locs hw => ?_)
          refine lv_istore (lv' := [(7, .int r15), (6, .int 0), (5, .int r13), (0, .ref m0), (1, .int i1), (2, .int i2), (3, .int i3), (4, .int i4)]) hx hb dX6_more_60 hl (by decide) rfl (fun ls hl => ?_)
          refine lv_aload_n hx hb dX6_more_62 rfl (lv_at hl 3 rfl) ?_
          obtain ⟨f17, k18, h265⟩ := ob1 h264
          clear h264
          refine g_vv F (cX6_asides_ok l d cy m0 m1 m2 m3 m4 m5 m6 m7 m8 m9 m10 m_now m_tape m_typed m_place m_isFault m_readWet m_readHarvest m_read m_undone m_undos m_bestGain m_aside m_kept m_keptUndos m_isKept m_lanes m_sizes m_items m_moved f17 k18) cal_X6_asides t_1007 rfl ⟨by decide, by decide⟩ hw (w' := wM cy m0 m1 m2 m3 m4 m5 m6 m7 m8 m9 m10 m_now m_tape m_typed m_place m_isFault m_readWet m_readHarvest m_read m_undone m_undos m_bestGain f17 m_kept m_keptUndos m_isKept m_lanes m_sizes m_items m_moved) Cut.all 0 6 rfl rfl hl.1 (Nat.le_of_ble_eq_true rfl) rfl dX6_more_63 (fun H locs hw => ?_)
          refine lv_iconst (v := 1) hx hb dX6_more_66 (by decide) ?_
          refine lv_istore (lv' := [(8, .int 1), (7, .int r15), (6, .int 0), (5, .int r13), (0, .ref m0), (1, .int i1), (2, .int i2), (3, .int i3), (4, .int i4)]) hx hb dX6_more_67 hl (by decide) rfl (fun ls hl => ?_)
          obtain ⟨q180, o181, o182, h266, h267⟩ := ob3 h265
          clear h265
          have kont177 : ∀ (H : Heap) (locs : List Loc) (ls : Array Slot), Wd d A s.heap (wM cy m0 m1 m2 m3 m4 m5 m6 m7 m8 m9 m10 q180 m_tape m_typed m_place m_isFault m_readWet m_readHarvest m_read m_undone m_undos m_bestGain f17 m_kept m_keptUndos m_isKept m_lanes m_sizes m_items m_moved) H locs → lv_has ls 10 [(4, .int i4), (6, .int o181), (7, .int o182)] → W p l e (rmo 5 116) s m args below meth c H locs 0 0 Q (F0 m 181 ls []) := by
            intro H locs ls hw hl
            clear h266
            refine lv_iload hx hb dX6_more_181 (lv_at hl 0 rfl) ?_
            refine lv_if_ne (tgt := 191) hx hb dX6_more_183 (by decide) (fun c258 => ?_) (fun c258 => ?_)
            · rw [if_neg c258] at h267
              refine lv_iload hx hb dX6_more_191 (lv_at hl 1 rfl) ?_
              obtain ⟨rfl, rfl, rfl⟩ := inj3 h267
              exact hret _ _ _ _ hw dX6_more_193
            · rw [if_pos c258] at h267
              refine lv_iload hx hb dX6_more_186 (lv_at hl 2 rfl) ?_
              refine lv_goto (tgt := 193) hx hb dX6_more_188 (by decide) ?_
              obtain ⟨rfl, rfl, rfl⟩ := inj3 h267
              exact hret _ _ _ _ hw dX6_more_193
          clear h267
          have loop179 : ∀ (n : Nat) (v173 : Int32) (v174 : Int32) (v175 : Int32) (g176 : Nat → Int32) (H : Heap) (locs : List Loc) (ls : Array Slot), Wd d A s.heap (wM cy m0 m1 m2 m3 m4 m5 m6 m7 m8 m9 m10 g176 m_tape m_typed m_place m_isFault m_readWet m_readHarvest m_read m_undone m_undos m_bestGain f17 m_kept m_keptUndos m_isKept m_lanes m_sizes m_items m_moved) H locs → lv_has ls 10 [(0, .ref m0), (1, .int i1), (2, .int i2), (3, .int i3), (4, .int i4), (5, .int r13), (6, .int v173), (7, .int v174), (8, .int v175)] → fX6_more_L69 i1 i2 i3 r13 f17 n v173 v174 v175 g176 = some (q180, o181, o182) → W p l e (rmo 5 116) s m args below meth c H locs 0 0 Q (F0 m 69 ls []) := by
            intro n
            induction n with
            | zero =>
              intro v173 v174 v175 g176 H locs ls hw hl h268
              rw [fX6_more_L69] at h268
              cases h268
            | succ n ih178 =>
              intro v173 v174 v175 g176 H locs ls hw hl h269
              rw [fX6_more_L69] at h269
              refine lv_iload hx hb dX6_more_69 (lv_at hl 8 rfl) ?_
              refine lv_sipush (v := 4096) hx hb dX6_more_71 (by decide) ?_
              refine lv_icmp_ge (tgt := 181) hx hb dX6_more_74 (by decide) (fun c183 => ?_) (fun c183 => ?_)
              · rw [if_pos c183] at h269
                obtain ⟨rfl, rfl, rfl⟩ := inj3 h269
                exact kont177 _ _ _ hw (lv_sub hl [4, 6, 7] rfl)
              · rw [if_neg c183] at h269
                refine lv_iload hx hb dX6_more_77 (lv_at hl 8 rfl) ?_
                refine lv_iload hx hb dX6_more_79 (lv_at hl 5 rfl) ?_
                refine lv_iand hx hb dX6_more_81 ?_
                obtain ⟨f219, x220, x221, h270, h271⟩ := ob3 h269
                clear h269
                have kont222 : ∀ (H : Heap) (locs : List Loc) (ls : Array Slot), Wd d A s.heap (wM cy m0 m1 m2 m3 m4 m5 m6 m7 m8 m9 m10 f219 m_tape m_typed m_place m_isFault m_readWet m_readHarvest m_read m_undone m_undos m_bestGain f17 m_kept m_keptUndos m_isKept m_lanes m_sizes m_items m_moved) H locs → lv_has ls 10 [(0, .ref m0), (1, .int i1), (2, .int i2), (3, .int i3), (4, .int i4), (5, .int r13), (6, .int x220), (7, .int x221), (8, .int v175)] → W p l e (rmo 5 116) s m args below meth c H locs 0 0 Q (F0 m 175 ls []) := by
                  intro H locs ls hw hl
                  clear h270
                  refine lv_iinc (v := (v175 + 1)) (lv' := [(8, .int (v175 + 1)), (0, .ref m0), (1, .int i1), (2, .int i2), (3, .int i3), (4, .int i4), (5, .int r13), (6, .int x220), (7, .int x221)]) hx hb dX6_more_175 hl (k := 8) rfl rfl (by decide) rfl (fun ls hl => ?_)
                  refine lv_goto (tgt := 69) hx hb dX6_more_178 (by decide) ?_
                  exact ih178 x220 x221 (v175 + 1) f219 _ _ _ hw (lv_sub hl [1, 2, 3, 4, 5, 6, 7, 8, 0] rfl) h271
                clear h271
                refine lv_if_ne (tgt := 175) hx hb dX6_more_82 (by decide) (fun c223 => ?_) (fun c223 => ?_)
                · rw [if_neg c223] at h270
                  obtain ⟨rfl, rfl, rfl⟩ := inj3 h270
                  exact kont222 _ _ _ hw (lv_sub hl [0, 1, 2, 3, 4, 5, 6, 7, 8] rfl)
                · rw [if_pos c223] at h270
                  refine lv_iload hx hb dX6_more_85 (lv_at hl 8 rfl) ?_
                  obtain ⟨r224, k225, h272⟩ := ob1 h270
                  clear h270
                  refine g_si F (cX6_many_ok l d cy v175 r224 k225) cal_X6_many t_931 rfl ⟨by decide, by decide⟩ hw (w' := wM cy m0 m1 m2 m3 m4 m5 m6 m7 m8 m9 m10 g176 m_tape m_typed m_place m_isFault m_readWet m_readHarvest m_read m_undone m_undos m_bestGain f17 m_kept m_keptUndos m_isKept m_lanes m_sizes m_items m_moved) Cut.nil hl.1 (Nat.le_of_ble_eq_true rfl) rfl dX6_more_87 (fun H locs hw => ?_)
                  refine lv_iload_n hx hb dX6_more_90 rfl (lv_at hl 2 rfl) ?_
                  refine lv_icmp_gt (tgt := 175) hx hb dX6_more_91 (by decide) (fun c226 => ?_) (fun c226 => ?_)
                  · rw [if_pos c226] at h272
                    obtain ⟨rfl, rfl, rfl⟩ := inj3 h272
                    exact kont222 _ _ _ hw (lv_sub hl [0, 1, 2, 3, 4, 5, 6, 7, 8] rfl)
                  · rw [if_neg c226] at h272
                    refine lv_iconst (v := 0) hx hb dX6_more_94 (by decide) ?_
                    refine lv_istore (lv' := [(9, .int 0), (0, .ref m0), (1, .int i1), (2, .int i2), (3, .int i3), (4, .int i4), (5, .int r13), (6, .int v173), (7, .int v174), (8, .int v175)]) hx hb dX6_more_95 hl (by decide) rfl (fun ls hl => ?_)
                    obtain ⟨q240, h273, h274⟩ := ob1 h272
                    clear h272
                    have kont237 : ∀ (H : Heap) (locs : List Loc) (ls : Array Slot), Wd d A s.heap (wM cy m0 m1 m2 m3 m4 m5 m6 m7 m8 m9 m10 q240 m_tape m_typed m_place m_isFault m_readWet m_readHarvest m_read m_undone m_undos m_bestGain f17 m_kept m_keptUndos m_isKept m_lanes m_sizes m_items m_moved) H locs → lv_has ls 10 [(0, .ref m0), (1, .int i1), (2, .int i2), (3, .int i3), (4, .int i4), (5, .int r13), (6, .int v173), (7, .int v174), (8, .int v175)] → W p l e (rmo 5 116) s m args below meth c H locs 0 0 Q (F0 m 124 ls []) := by
                      intro H locs ls hw hl
                      clear h273
                      refine lv_aload_n hx hb dX6_more_124 rfl (lv_at hl 0 rfl) ?_
                      refine lv_iload_n hx hb dX6_more_125 rfl (lv_at hl 1 rfl) ?_
                      obtain ⟨r244, k245, h275⟩ := ob1 h274
                      clear h274
                      refine g_vi F (cX6_worth_ok l d cy m0 m1 m2 m3 m4 m5 m6 m7 m8 m9 m10 q240 m_tape m_typed m_place m_isFault m_readWet m_readHarvest m_read m_undone m_undos m_bestGain f17 m_kept m_keptUndos m_isKept m_lanes m_sizes m_items m_moved i1 r244 k245) cal_X6_worth t_838 rfl ⟨by decide, by decide⟩ hw (w' := wM cy m0 m1 m2 m3 m4 m5 m6 m7 m8 m9 m10 q240 m_tape m_typed m_place m_isFault m_readWet m_readHarvest m_read m_undone m_undos m_bestGain f17 m_kept m_keptUndos m_isKept m_lanes m_sizes m_items m_moved) Cut.all 0 6 rfl rfl hl.1 (Nat.le_of_ble_eq_true rfl) rfl dX6_more_126 (fun H locs hw => ?_)
                      refine lv_iload_n hx hb dX6_more_129 rfl (lv_at hl 3 rfl) ?_
                      refine lv_iload hx hb dX6_more_130 (lv_at hl 8 rfl) ?_
                      obtain ⟨r246, k247, h276⟩ := ob1 h275
                      clear h275
                      refine g_si F (cX6_many_ok l d cy v175 r246 k247) cal_X6_many t_931 rfl ⟨by decide, by decide⟩ hw (w' := wM cy m0 m1 m2 m3 m4 m5 m6 m7 m8 m9 m10 q240 m_tape m_typed m_place m_isFault m_readWet m_readHarvest m_read m_undone m_undos m_bestGain f17 m_kept m_keptUndos m_isKept m_lanes m_sizes m_items m_moved) Cut.nil hl.1 (Nat.le_of_ble_eq_true rfl) rfl dX6_more_132 (fun H locs hw => ?_)
                      refine lv_imul hx hb dX6_more_135 ?_
                      refine lv_isub hx hb dX6_more_136 ?_
                      refine lv_istore (lv' := [(9, .int (r244 - (i3 * r246))), (0, .ref m0), (1, .int i1), (2, .int i2), (3, .int i3), (4, .int i4), (5, .int r13), (6, .int v173), (7, .int v174), (8, .int v175)]) hx hb dX6_more_137 hl (by decide) rfl (fun ls hl => ?_)
                      refine lv_iload hx hb dX6_more_139 (lv_at hl 0 rfl) ?_
                      refine lv_iload hx hb dX6_more_141 (lv_at hl 8 rfl) ?_
                      obtain ⟨x249, h277, h278⟩ := ob1 h276
                      clear h276
                      have kont250 : ∀ (H : Heap) (locs : List Loc) (ls : Array Slot), Wd d A s.heap (wM cy m0 m1 m2 m3 m4 m5 m6 m7 m8 m9 m10 q240 m_tape m_typed m_place m_isFault m_readWet m_readHarvest m_read m_undone m_undos m_bestGain f17 m_kept m_keptUndos m_isKept m_lanes m_sizes m_items m_moved) H locs → lv_has ls 10 [(0, .ref m0), (1, .int i1), (2, .int i2), (3, .int i3), (4, .int i4), (5, .int r13), (7, .int v174), (8, .int v175), (9, .int (r244 - (i3 * r246)))] → W p l e (rmo 5 116) s m args below meth c H locs 0 0 Q (F0 m 153 ls [.int x249]) := by
                        intro H locs ls hw hl
                        clear h277
                        refine lv_istore (lv' := [(6, .int x249), (0, .ref m0), (1, .int i1), (2, .int i2), (3, .int i3), (4, .int i4), (5, .int r13), (7, .int v174), (8, .int v175), (9, .int (r244 - (i3 * r246)))]) hx hb dX6_more_153 hl (by decide) rfl (fun ls hl => ?_)
                        refine lv_iload hx hb dX6_more_155 (lv_at hl 9 rfl) ?_
                        refine lv_iload hx hb dX6_more_157 (lv_at hl 7 rfl) ?_
                        obtain ⟨x253, h279, h280⟩ := ob1 h278
                        clear h278
                        have kont254 : ∀ (H : Heap) (locs : List Loc) (ls : Array Slot), Wd d A s.heap (wM cy m0 m1 m2 m3 m4 m5 m6 m7 m8 m9 m10 q240 m_tape m_typed m_place m_isFault m_readWet m_readHarvest m_read m_undone m_undos m_bestGain f17 m_kept m_keptUndos m_isKept m_lanes m_sizes m_items m_moved) H locs → lv_has ls 10 [(0, .ref m0), (1, .int i1), (2, .int i2), (3, .int i3), (4, .int i4), (5, .int r13), (6, .int x249), (8, .int v175)] → W p l e (rmo 5 116) s m args below meth c H locs 0 0 Q (F0 m 169 ls [.int x253]) := by
                          intro H locs ls hw hl
                          clear h279
                          refine lv_istore (lv' := [(7, .int x253), (0, .ref m0), (1, .int i1), (2, .int i2), (3, .int i3), (4, .int i4), (5, .int r13), (6, .int x249), (8, .int v175)]) hx hb dX6_more_169 hl (by decide) rfl (fun ls hl => ?_)
                          refine lv_aload_n hx hb dX6_more_171 rfl (lv_at hl 1 rfl) ?_
                          obtain ⟨f256, k257, h281⟩ := ob1 h280
                          clear h280
                          refine g_vv F (cX6_backs_ok l d cy m0 m1 m2 m3 m4 m5 m6 m7 m8 m9 m10 q240 m_tape m_typed m_place m_isFault m_readWet m_readHarvest m_read m_undone m_undos m_bestGain f17 m_kept m_keptUndos m_isKept m_lanes m_sizes m_items m_moved f256 k257) cal_X6_backs t_1011 rfl ⟨by decide, by decide⟩ hw (w' := wM cy m0 m1 m2 m3 m4 m5 m6 m7 m8 m9 m10 f256 m_tape m_typed m_place m_isFault m_readWet m_readHarvest m_read m_undone m_undos m_bestGain f17 m_kept m_keptUndos m_isKept m_lanes m_sizes m_items m_moved) Cut.all 0 6 rfl rfl hl.1 (Nat.le_of_ble_eq_true rfl) rfl dX6_more_172 (fun H locs hw => ?_)
                          obtain ⟨rfl, rfl, rfl⟩ := inj3 h281
                          exact kont222 _ _ _ hw (lv_sub hl [1, 2, 3, 4, 5, 6, 7, 0, 8] rfl)
                        clear h280
                        refine lv_icmp_le (tgt := 167) hx hb dX6_more_159 (by decide) (fun c255 => ?_) (fun c255 => ?_)
                        · rw [if_pos c255] at h279
                          refine lv_iload hx hb dX6_more_167 (lv_at hl 7 rfl) ?_
                          obtain rfl := inj1 h279
                          exact kont254 _ _ _ hw (lv_sub hl [1, 2, 3, 4, 5, 6, 0, 8] rfl)
                        · rw [if_neg c255] at h279
                          refine lv_iload hx hb dX6_more_162 (lv_at hl 9 rfl) ?_
                          refine lv_goto (tgt := 169) hx hb dX6_more_164 (by decide) ?_
                          obtain rfl := inj1 h279
                          exact kont254 _ _ _ hw (lv_sub hl [1, 2, 3, 4, 5, 6, 0, 8] rfl)
                      clear h278
                      refine lv_icmp_le (tgt := 151) hx hb dX6_more_143 (by decide) (fun c251 => ?_) (fun c251 => ?_)
                      · rw [if_pos c251] at h277
                        refine lv_iload hx hb dX6_more_151 (lv_at hl 7 rfl) ?_
                        obtain rfl := inj1 h277
                        exact kont250 _ _ _ hw (lv_sub hl [1, 2, 3, 4, 5, 6, 8, 9, 0] rfl)
                      · rw [if_neg c251] at h277
                        refine lv_iload hx hb dX6_more_146 (lv_at hl 9 rfl) ?_
                        refine lv_goto (tgt := 153) hx hb dX6_more_148 (by decide) ?_
                        obtain rfl := inj1 h277
                        exact kont250 _ _ _ hw (lv_sub hl [1, 2, 3, 4, 5, 6, 8, 9, 0] rfl)
                    clear h274
                    have loop239 : ∀ (n : Nat) (v235 : Int32) (g236 : Nat → Int32) (H : Heap) (locs : List Loc) (ls : Array Slot), Wd d A s.heap (wM cy m0 m1 m2 m3 m4 m5 m6 m7 m8 m9 m10 g236 m_tape m_typed m_place m_isFault m_readWet m_readHarvest m_read m_undone m_undos m_bestGain f17 m_kept m_keptUndos m_isKept m_lanes m_sizes m_items m_moved) H locs → lv_has ls 10 [(0, .ref m0), (1, .int i1), (2, .int i2), (3, .int i3), (4, .int i4), (5, .int r13), (6, .int v173), (7, .int v174), (8, .int v175), (9, .int v235)] → fX6_more_L97 i1 v175 n v235 g236 = some (q240) → W p l e (rmo 5 116) s m args below meth c H locs 0 0 Q (F0 m 97 ls []) := by
                      intro n
                      induction n with
                      | zero =>
                        intro v235 g236 H locs ls hw hl h282
                        rw [fX6_more_L97] at h282
                        cases h282
                      | succ n ih238 =>
                        intro v235 g236 H locs ls hw hl h283
                        rw [fX6_more_L97] at h283
                        refine lv_iload hx hb dX6_more_97 (lv_at hl 9 rfl) ?_
                        refine lv_bipush (v := 12) hx hb dX6_more_99 (by decide) ?_
                        refine lv_icmp_ge (tgt := 124) hx hb dX6_more_101 (by decide) (fun c241 => ?_) (fun c241 => ?_)
                        · rw [if_pos c241] at h283
                          obtain rfl := inj1 h283
                          exact kont237 _ _ _ hw (lv_sub hl [0, 1, 2, 3, 4, 5, 6, 7, 8] rfl)
                        · rw [if_neg c241] at h283
                          refine lv_aload_n hx hb dX6_more_104 rfl (lv_at hl 0 rfl) ?_
                          refine lv_iload_n hx hb dX6_more_105 rfl (lv_at hl 1 rfl) ?_
                          refine lv_iload hx hb dX6_more_106 (lv_at hl 9 rfl) ?_
                          refine lv_iload hx hb dX6_more_108 (lv_at hl 8 rfl) ?_
                          refine lv_iload hx hb dX6_more_110 (lv_at hl 9 rfl) ?_
                          refine lv_ishr hx hb dX6_more_112 ?_
                          refine lv_iconst (v := 1) hx hb dX6_more_113 (by decide) ?_
                          refine lv_iand hx hb dX6_more_114 ?_
                          obtain ⟨f242, k243, h284⟩ := ob1 h283
                          clear h283
                          refine g_vv F (cX6_gets_ok l d cy m0 m1 m2 m3 m4 m5 m6 m7 m8 m9 m10 g236 m_tape m_typed m_place m_isFault m_readWet m_readHarvest m_read m_undone m_undos m_bestGain f17 m_kept m_keptUndos m_isKept m_lanes m_sizes m_items m_moved i1 v235 ((v175 >>> (v235 &&& 31)) &&& 1) f242 k243) cal_X6_gets t_914 rfl ⟨by decide, by decide⟩ hw (w' := wM cy m0 m1 m2 m3 m4 m5 m6 m7 m8 m9 m10 f242 m_tape m_typed m_place m_isFault m_readWet m_readHarvest m_read m_undone m_undos m_bestGain f17 m_kept m_keptUndos m_isKept m_lanes m_sizes m_items m_moved) Cut.all 0 6 rfl rfl hl.1 (Nat.le_of_ble_eq_true rfl) rfl dX6_more_115 (fun H locs hw => ?_)
                          refine lv_iinc (v := (v235 + 1)) (lv' := [(9, .int (v235 + 1)), (0, .ref m0), (1, .int i1), (2, .int i2), (3, .int i3), (4, .int i4), (5, .int r13), (6, .int v173), (7, .int v174), (8, .int v175)]) hx hb dX6_more_118 hl (k := 9) rfl rfl (by decide) rfl (fun ls hl => ?_)
                          refine lv_goto (tgt := 97) hx hb dX6_more_121 (by decide) ?_
                          exact ih238 (v235 + 1) f242 _ _ _ hw (lv_sub hl [1, 2, 3, 4, 5, 6, 7, 8, 9, 0] rfl) h284
                    exact loop239 fl 0 g176 _ _ _ hw (lv_sub hl [1, 2, 3, 4, 5, 6, 7, 8, 9, 0] rfl) h273
          exact loop179 fl 0 r15 1 m_now _ _ _ hw (lv_sub hl [4, 5, 6, 7, 8, 3, 2, 1, 0] rfl) h266
        · rw [if_pos c12] at h262
          refine lv_iconst (v := (-1)) hx hb dX6_more_43 (by decide) ?_
          obtain ⟨rfl, rfl, rfl⟩ := inj3 h262
          exact hret _ _ _ _ hw dX6_more_44
theorem cal_X6_envy : CalV yX6_envy cX6_envy 7 (some .int) RX6 2 := ⟨t_1031, t_1029, t_1030, t_43, by decide +kernel⟩
set_option maxHeartbeats 4000000 in
set_option maxRecDepth 100000 in
theorem cX6_envy_ok (l : Launch) (d : va_G) (cy : Nat → ClassId) (m0 m1 m2 m3 m4 m5 m6 m7 m8 m9 m10 : Nat) (m_now : Nat → Int32) (m_tape : Nat → Int32) (m_typed : Int32) (m_place : Int32) (m_isFault : Int32) (m_readWet : Int32) (m_readHarvest : Int32) (m_read : Nat → Int32) (m_undone : Nat → Int32) (m_undos : Int32) (m_bestGain : Int32) (m_aside : Nat → Int32) (m_kept : Nat → Int32) (m_keptUndos : Int32) (m_isKept : Int32) (m_lanes : Nat → Int32) (m_sizes : Nat → Int32) (m_items : Nat → Int64) (m_moved : Nat → Int64) (i1 : Int32) (i2 : Int32) (r : Int32) (m_now_r : Nat → Int32) (m_aside_r : Nat → Int32) (h0 : fX6_envy m_now m_aside i1 i2 = some (r, m_now_r, m_aside_r)) : CI l yX6_envy cX6_envy 7 (some .int) 5 116 d cy [.ref m0, .int i1, .int i2] (wM cy m0 m1 m2 m3 m4 m5 m6 m7 m8 m9 m10 m_now m_tape m_typed m_place m_isFault m_readWet m_readHarvest m_read m_undone m_undos m_bestGain m_aside m_kept m_keptUndos m_isKept m_lanes m_sizes m_items m_moved) (wM cy m0 m1 m2 m3 m4 m5 m6 m7 m8 m9 m10 m_now_r m_tape m_typed m_place m_isFault m_readWet m_readHarvest m_read m_undone m_undos m_bestGain m_aside_r m_kept m_keptUndos m_isKept m_lanes m_sizes m_items m_moved) r := by
  refine CI.of (by decide) (Nat.le_of_ble_eq_true rfl) ?_
  intro p e s m args below meth c A ls Q F hret hw hl
  have hx := F.1
  have hb := F.2.1
  have hl : lv_has ls 7 [(0, .ref m0), (1, .int i1), (2, .int i2)] := hl
  rw [fX6_envy] at h0
  refine lv_aload_n hx hb dX6_envy_0 rfl (lv_at hl 0 rfl) ?_
  refine lv_iload_n hx hb dX6_envy_1 rfl (lv_at hl 1 rfl) ?_
  obtain ⟨r1, k2, h264⟩ := ob1 h0
  clear h0
  refine g_vi F (cX6_isPerson_ok l d cy m0 m1 m2 m3 m4 m5 m6 m7 m8 m9 m10 m_now m_tape m_typed m_place m_isFault m_readWet m_readHarvest m_read m_undone m_undos m_bestGain m_aside m_kept m_keptUndos m_isKept m_lanes m_sizes m_items m_moved i1 r1 k2) cal_X6_isPerson t_804 rfl ⟨by decide, by decide⟩ hw (w' := wM cy m0 m1 m2 m3 m4 m5 m6 m7 m8 m9 m10 m_now m_tape m_typed m_place m_isFault m_readWet m_readHarvest m_read m_undone m_undos m_bestGain m_aside m_kept m_keptUndos m_isKept m_lanes m_sizes m_items m_moved) Cut.all 0 6 rfl rfl hl.1 (Nat.le_of_ble_eq_true rfl) rfl dX6_envy_2 (fun H locs hw => ?_)
  refine lv_if_eq (tgt := 18) hx hb dX6_envy_5 (by decide) (fun c3 => ?_) (fun c3 => ?_)
  · rw [if_pos c3] at h264
    refine lv_iconst (v := (-1)) hx hb dX6_envy_18 (by decide) ?_
    obtain ⟨rfl, rfl, rfl⟩ := inj3 h264
    exact hret _ _ _ _ hw dX6_envy_19
  · rw [if_neg c3] at h264
    refine lv_iload_n hx hb dX6_envy_8 rfl (lv_at hl 2 rfl) ?_
    refine lv_i2l hx hb dX6_envy_9 rfl ?_
    refine lv_lconst (v := 0) hx hb dX6_envy_10 (by decide) ?_
    refine lv_lconst (v := 1) hx hb dX6_envy_11 (by decide) ?_
    obtain ⟨r4, k5, h265⟩ := ob1 h264
    clear h264
    refine g_si F (cX6_in_ok l d cy (Int32.toInt64 i2) 0 1 r4 k5) cal_X6_in t_793 rfl ⟨by decide, by decide⟩ hw (w' := wM cy m0 m1 m2 m3 m4 m5 m6 m7 m8 m9 m10 m_now m_tape m_typed m_place m_isFault m_readWet m_readHarvest m_read m_undone m_undos m_bestGain m_aside m_kept m_keptUndos m_isKept m_lanes m_sizes m_items m_moved) Cut.nil hl.1 (Nat.le_of_ble_eq_true rfl) rfl dX6_envy_12 (fun H locs hw => ?_)
    refine lv_if_ne (tgt := 20) hx hb dX6_envy_15 (by decide) (fun c6 => ?_) (fun c6 => ?_)
    · rw [if_neg c6] at h265
      refine lv_aload_n hx hb dX6_envy_20 rfl (lv_at hl 0 rfl) ?_
      refine lv_iload_n hx hb dX6_envy_21 rfl (lv_at hl 1 rfl) ?_
      obtain ⟨r7, k8, h266⟩ := ob1 h265
      clear h265
      refine g_vi F (cX6_worth_ok l d cy m0 m1 m2 m3 m4 m5 m6 m7 m8 m9 m10 m_now m_tape m_typed m_place m_isFault m_readWet m_readHarvest m_read m_undone m_undos m_bestGain m_aside m_kept m_keptUndos m_isKept m_lanes m_sizes m_items m_moved i1 r7 k8) cal_X6_worth t_838 rfl ⟨by decide, by decide⟩ hw (w' := wM cy m0 m1 m2 m3 m4 m5 m6 m7 m8 m9 m10 m_now m_tape m_typed m_place m_isFault m_readWet m_readHarvest m_read m_undone m_undos m_bestGain m_aside m_kept m_keptUndos m_isKept m_lanes m_sizes m_items m_moved) Cut.all 0 6 rfl rfl hl.1 (Nat.le_of_ble_eq_true rfl) rfl dX6_envy_22 (fun H locs hw => ?_)
      refine lv_istore_n (lv' := [(3, .int r7), (0, .ref m0), (1, .int i1), (2, .int i2)]) hx hb dX6_envy_25 rfl hl (by decide) rfl (fun ls hl => ?_)
      refine lv_bipush (v := (-4)) hx hb dX6_envy_26 (by decide) ?_
      refine lv_istore (lv' := [(4, .int (-4)), (3, .int r7), (0, .ref m0), (1, .int i1), (2, .int i2)]) hx hb dX6_envy_28 hl (by decide) rfl (fun ls hl => ?_)
      refine lv_aload_n hx hb dX6_envy_30 rfl (lv_at hl 2 rfl) ?_
      obtain ⟨f9, k10, h267⟩ := ob1 h266
      clear h266
      refine g_vv F (cX6_asides_ok l d cy m0 m1 m2 m3 m4 m5 m6 m7 m8 m9 m10 m_now m_tape m_typed m_place m_isFault m_readWet m_readHarvest m_read m_undone m_undos m_bestGain m_aside m_kept m_keptUndos m_isKept m_lanes m_sizes m_items m_moved f9 k10) cal_X6_asides t_1007 rfl ⟨by decide, by decide⟩ hw (w' := wM cy m0 m1 m2 m3 m4 m5 m6 m7 m8 m9 m10 m_now m_tape m_typed m_place m_isFault m_readWet m_readHarvest m_read m_undone m_undos m_bestGain f9 m_kept m_keptUndos m_isKept m_lanes m_sizes m_items m_moved) Cut.all 0 6 rfl rfl hl.1 (Nat.le_of_ble_eq_true rfl) rfl dX6_envy_31 (fun H locs hw => ?_)
      refine lv_iconst (v := 0) hx hb dX6_envy_34 (by decide) ?_
      refine lv_istore (lv' := [(5, .int 0), (4, .int (-4)), (3, .int r7), (0, .ref m0), (1, .int i1), (2, .int i2)]) hx hb dX6_envy_35 hl (by decide) rfl (fun ls hl => ?_)
      obtain ⟨q180, o181, o182, h268, h269⟩ := ob3 h267
      clear h267
      have kont177 : ∀ (H : Heap) (locs : List Loc) (ls : Array Slot), Wd d A s.heap (wM cy m0 m1 m2 m3 m4 m5 m6 m7 m8 m9 m10 q180 m_tape m_typed m_place m_isFault m_readWet m_readHarvest m_read m_undone m_undos m_bestGain f9 m_kept m_keptUndos m_isKept m_lanes m_sizes m_items m_moved) H locs → lv_has ls 7 [(2, .int i2), (3, .int o181), (4, .int o182)] → W p l e (rmo 5 116) s m args below meth c H locs 0 0 Q (F0 m 146 ls []) := by
        intro H locs ls hw hl
        clear h268
        refine lv_iload_n hx hb dX6_envy_146 rfl (lv_at hl 0 rfl) ?_
        refine lv_if_eq (tgt := 157) hx hb dX6_envy_147 (by decide) (fun c262 => ?_) (fun c262 => ?_)
        · rw [if_pos c262] at h269
          refine lv_iload hx hb dX6_envy_157 (lv_at hl 2 rfl) ?_
          refine lv_goto (tgt := 163) hx hb dX6_envy_159 (by decide) ?_
          obtain ⟨rfl, rfl, rfl⟩ := inj3 h269
          exact hret _ _ _ _ hw dX6_envy_163
        · rw [if_neg c262] at h269
          refine lv_iload hx hb dX6_envy_150 (lv_at hl 2 rfl) ?_
          refine lv_bipush (v := (-4)) hx hb dX6_envy_152 (by decide) ?_
          refine lv_icmp_ne (tgt := 162) hx hb dX6_envy_154 (by decide) (fun c263 => ?_) (fun c263 => ?_)
          · rw [if_neg c263] at h269
            refine lv_iload_n hx hb dX6_envy_162 rfl (lv_at hl 1 rfl) ?_
            obtain ⟨rfl, rfl, rfl⟩ := inj3 h269
            exact hret _ _ _ _ hw dX6_envy_163
          · rw [if_pos c263] at h269
            refine lv_iload hx hb dX6_envy_157 (lv_at hl 2 rfl) ?_
            refine lv_goto (tgt := 163) hx hb dX6_envy_159 (by decide) ?_
            obtain ⟨rfl, rfl, rfl⟩ := inj3 h269
            exact hret _ _ _ _ hw dX6_envy_163
      clear h269
      have loop179 : ∀ (n : Nat) (v173 : Int32) (v174 : Int32) (v175 : Int32) (g176 : Nat → Int32) (H : Heap) (locs : List Loc) (ls : Array Slot), Wd d A s.heap (wM cy m0 m1 m2 m3 m4 m5 m6 m7 m8 m9 m10 g176 m_tape m_typed m_place m_isFault m_readWet m_readHarvest m_read m_undone m_undos m_bestGain f9 m_kept m_keptUndos m_isKept m_lanes m_sizes m_items m_moved) H locs → lv_has ls 7 [(0, .ref m0), (1, .int i1), (2, .int i2), (3, .int v173), (4, .int v174), (5, .int v175)] → fX6_envy_L37 i1 f9 n v173 v174 v175 g176 = some (q180, o181, o182) → W p l e (rmo 5 116) s m args below meth c H locs 0 0 Q (F0 m 37 ls []) := by
        intro n
        induction n with
        | zero =>
          intro v173 v174 v175 g176 H locs ls hw hl h270
          rw [fX6_envy_L37] at h270
          cases h270
        | succ n ih178 =>
          intro v173 v174 v175 g176 H locs ls hw hl h271
          rw [fX6_envy_L37] at h271
          refine lv_iload hx hb dX6_envy_37 (lv_at hl 5 rfl) ?_
          refine lv_aload_n hx hb dX6_envy_39 rfl (lv_at hl 0 rfl) ?_
          refine g_get F inG6 hw 0 rfl rfl 0 (by decide) t_730 (fun _ h9 => h9) rfl dX6_envy_40 ?_
          refine lv_iconst (v := 0) hx hb dX6_envy_43 (by decide) ?_
          obtain ⟨j183, k184, h272⟩ := ob1 h271
          clear h271
          refine g_iald F hw 1 rfl k184 dX6_envy_44 ?_
          refine lv_icmp_ge (tgt := 146) hx hb dX6_envy_45 (by decide) (fun c185 => ?_) (fun c185 => ?_)
          · rw [if_pos c185] at h272
            obtain ⟨rfl, rfl, rfl⟩ := inj3 h272
            exact kont177 _ _ _ hw (lv_sub hl [2, 3, 4] rfl)
          · rw [if_neg c185] at h272
            refine lv_iload hx hb dX6_envy_48 (lv_at hl 5 rfl) ?_
            refine lv_iload_n hx hb dX6_envy_50 rfl (lv_at hl 1 rfl) ?_
            obtain ⟨f222, x223, x224, h273, h274⟩ := ob3 h272
            clear h272
            have kont225 : ∀ (H : Heap) (locs : List Loc) (ls : Array Slot), Wd d A s.heap (wM cy m0 m1 m2 m3 m4 m5 m6 m7 m8 m9 m10 f222 m_tape m_typed m_place m_isFault m_readWet m_readHarvest m_read m_undone m_undos m_bestGain f9 m_kept m_keptUndos m_isKept m_lanes m_sizes m_items m_moved) H locs → lv_has ls 7 [(0, .ref m0), (1, .int i1), (2, .int i2), (3, .int x223), (4, .int x224), (5, .int v175)] → W p l e (rmo 5 116) s m args below meth c H locs 0 0 Q (F0 m 140 ls []) := by
              intro H locs ls hw hl
              clear h273
              refine lv_iinc (v := (v175 + 1)) (lv' := [(5, .int (v175 + 1)), (0, .ref m0), (1, .int i1), (2, .int i2), (3, .int x223), (4, .int x224)]) hx hb dX6_envy_140 hl (k := 5) rfl rfl (by decide) rfl (fun ls hl => ?_)
              refine lv_goto (tgt := 37) hx hb dX6_envy_143 (by decide) ?_
              exact ih178 x223 x224 (v175 + 1) f222 _ _ _ hw (lv_sub hl [1, 2, 3, 4, 5, 0] rfl) h274
            clear h274
            refine lv_icmp_eq (tgt := 140) hx hb dX6_envy_51 (by decide) (fun c226 => ?_) (fun c226 => ?_)
            · rw [if_pos c226] at h273
              obtain ⟨rfl, rfl, rfl⟩ := inj3 h273
              exact kont225 _ _ _ hw (lv_sub hl [0, 1, 2, 3, 4, 5] rfl)
            · rw [if_neg c226] at h273
              refine lv_iconst (v := 0) hx hb dX6_envy_54 (by decide) ?_
              refine lv_istore (lv' := [(6, .int 0), (0, .ref m0), (1, .int i1), (2, .int i2), (3, .int v173), (4, .int v174), (5, .int v175)]) hx hb dX6_envy_55 hl (by decide) rfl (fun ls hl => ?_)
              obtain ⟨q244, h275, h276⟩ := ob1 h273
              clear h273
              have kont241 : ∀ (H : Heap) (locs : List Loc) (ls : Array Slot), Wd d A s.heap (wM cy m0 m1 m2 m3 m4 m5 m6 m7 m8 m9 m10 q244 m_tape m_typed m_place m_isFault m_readWet m_readHarvest m_read m_undone m_undos m_bestGain f9 m_kept m_keptUndos m_isKept m_lanes m_sizes m_items m_moved) H locs → lv_has ls 7 [(0, .ref m0), (1, .int i1), (2, .int i2), (3, .int v173), (4, .int v174), (5, .int v175)] → W p l e (rmo 5 116) s m args below meth c H locs 0 0 Q (F0 m 101 ls []) := by
                intro H locs ls hw hl
                clear h275
                refine lv_aload_n hx hb dX6_envy_101 rfl (lv_at hl 0 rfl) ?_
                refine lv_iload_n hx hb dX6_envy_102 rfl (lv_at hl 1 rfl) ?_
                obtain ⟨r250, k251, h277⟩ := ob1 h276
                clear h276
                refine g_vi F (cX6_worth_ok l d cy m0 m1 m2 m3 m4 m5 m6 m7 m8 m9 m10 q244 m_tape m_typed m_place m_isFault m_readWet m_readHarvest m_read m_undone m_undos m_bestGain f9 m_kept m_keptUndos m_isKept m_lanes m_sizes m_items m_moved i1 r250 k251) cal_X6_worth t_838 rfl ⟨by decide, by decide⟩ hw (w' := wM cy m0 m1 m2 m3 m4 m5 m6 m7 m8 m9 m10 q244 m_tape m_typed m_place m_isFault m_readWet m_readHarvest m_read m_undone m_undos m_bestGain f9 m_kept m_keptUndos m_isKept m_lanes m_sizes m_items m_moved) Cut.all 0 6 rfl rfl hl.1 (Nat.le_of_ble_eq_true rfl) rfl dX6_envy_103 (fun H locs hw => ?_)
                refine lv_istore (lv' := [(6, .int r250), (0, .ref m0), (1, .int i1), (2, .int i2), (3, .int v173), (4, .int v174), (5, .int v175)]) hx hb dX6_envy_106 hl (by decide) rfl (fun ls hl => ?_)
                refine lv_iload hx hb dX6_envy_108 (lv_at hl 0 rfl) ?_
                refine lv_iload_n hx hb dX6_envy_110 rfl (lv_at hl 4 rfl) ?_
                obtain ⟨x253, h278, h279⟩ := ob1 h277
                clear h277
                have kont254 : ∀ (H : Heap) (locs : List Loc) (ls : Array Slot), Wd d A s.heap (wM cy m0 m1 m2 m3 m4 m5 m6 m7 m8 m9 m10 q244 m_tape m_typed m_place m_isFault m_readWet m_readHarvest m_read m_undone m_undos m_bestGain f9 m_kept m_keptUndos m_isKept m_lanes m_sizes m_items m_moved) H locs → lv_has ls 7 [(0, .ref m0), (1, .int i1), (2, .int i2), (3, .int v173), (5, .int v175), (6, .int r250)] → W p l e (rmo 5 116) s m args below meth c H locs 0 0 Q (F0 m 121 ls [.int x253]) := by
                  intro H locs ls hw hl
                  clear h278
                  refine lv_istore (lv' := [(4, .int x253), (0, .ref m0), (1, .int i1), (2, .int i2), (3, .int v173), (5, .int v175), (6, .int r250)]) hx hb dX6_envy_121 hl (by decide) rfl (fun ls hl => ?_)
                  refine lv_iload hx hb dX6_envy_123 (lv_at hl 6 rfl) ?_
                  refine lv_iload_n hx hb dX6_envy_125 rfl (lv_at hl 4 rfl) ?_
                  obtain ⟨x257, h280, h281⟩ := ob1 h279
                  clear h279
                  have kont258 : ∀ (H : Heap) (locs : List Loc) (ls : Array Slot), Wd d A s.heap (wM cy m0 m1 m2 m3 m4 m5 m6 m7 m8 m9 m10 q244 m_tape m_typed m_place m_isFault m_readWet m_readHarvest m_read m_undone m_undos m_bestGain f9 m_kept m_keptUndos m_isKept m_lanes m_sizes m_items m_moved) H locs → lv_has ls 7 [(0, .ref m0), (1, .int i1), (2, .int i2), (4, .int x253), (5, .int v175)] → W p l e (rmo 5 116) s m args below meth c H locs 0 0 Q (F0 m 135 ls [.int x257]) := by
                    intro H locs ls hw hl
                    clear h280
                    refine lv_istore_n (lv' := [(3, .int x257), (0, .ref m0), (1, .int i1), (2, .int i2), (4, .int x253), (5, .int v175)]) hx hb dX6_envy_135 rfl hl (by decide) rfl (fun ls hl => ?_)
                    refine lv_aload_n hx hb dX6_envy_136 rfl (lv_at hl 1 rfl) ?_
                    obtain ⟨f260, k261, h282⟩ := ob1 h281
                    clear h281
                    refine g_vv F (cX6_backs_ok l d cy m0 m1 m2 m3 m4 m5 m6 m7 m8 m9 m10 q244 m_tape m_typed m_place m_isFault m_readWet m_readHarvest m_read m_undone m_undos m_bestGain f9 m_kept m_keptUndos m_isKept m_lanes m_sizes m_items m_moved f260 k261) cal_X6_backs t_1011 rfl ⟨by decide, by decide⟩ hw (w' := wM cy m0 m1 m2 m3 m4 m5 m6 m7 m8 m9 m10 f260 m_tape m_typed m_place m_isFault m_readWet m_readHarvest m_read m_undone m_undos m_bestGain f9 m_kept m_keptUndos m_isKept m_lanes m_sizes m_items m_moved) Cut.all 0 6 rfl rfl hl.1 (Nat.le_of_ble_eq_true rfl) rfl dX6_envy_137 (fun H locs hw => ?_)
                    obtain ⟨rfl, rfl, rfl⟩ := inj3 h282
                    exact kont225 _ _ _ hw (lv_sub hl [1, 2, 3, 0, 4, 5] rfl)
                  clear h281
                  refine lv_icmp_le (tgt := 134) hx hb dX6_envy_126 (by decide) (fun c259 => ?_) (fun c259 => ?_)
                  · rw [if_pos c259] at h280
                    refine lv_iload_n hx hb dX6_envy_134 rfl (lv_at hl 4 rfl) ?_
                    obtain rfl := inj1 h280
                    exact kont258 _ _ _ hw (lv_sub hl [1, 2, 3, 0, 5] rfl)
                  · rw [if_neg c259] at h280
                    refine lv_iload hx hb dX6_envy_129 (lv_at hl 6 rfl) ?_
                    refine lv_goto (tgt := 135) hx hb dX6_envy_131 (by decide) ?_
                    obtain rfl := inj1 h280
                    exact kont258 _ _ _ hw (lv_sub hl [1, 2, 3, 0, 5] rfl)
                clear h279
                refine lv_icmp_le (tgt := 119) hx hb dX6_envy_111 (by decide) (fun c255 => ?_) (fun c255 => ?_)
                · rw [if_pos c255] at h278
                  refine lv_iload hx hb dX6_envy_119 (lv_at hl 5 rfl) ?_
                  obtain rfl := inj1 h278
                  exact kont254 _ _ _ hw (lv_sub hl [1, 2, 3, 4, 6, 0] rfl)
                · rw [if_neg c255] at h278
                  refine lv_iload hx hb dX6_envy_114 (lv_at hl 6 rfl) ?_
                  refine lv_goto (tgt := 121) hx hb dX6_envy_116 (by decide) ?_
                  obtain rfl := inj1 h278
                  exact kont254 _ _ _ hw (lv_sub hl [1, 2, 3, 4, 6, 0] rfl)
              clear h276
              have loop243 : ∀ (n : Nat) (v239 : Int32) (g240 : Nat → Int32) (H : Heap) (locs : List Loc) (ls : Array Slot), Wd d A s.heap (wM cy m0 m1 m2 m3 m4 m5 m6 m7 m8 m9 m10 g240 m_tape m_typed m_place m_isFault m_readWet m_readHarvest m_read m_undone m_undos m_bestGain f9 m_kept m_keptUndos m_isKept m_lanes m_sizes m_items m_moved) H locs → lv_has ls 7 [(0, .ref m0), (1, .int i1), (2, .int i2), (3, .int v173), (4, .int v174), (5, .int v175), (6, .int v239)] → fX6_envy_L57 i1 f9 v175 n v239 g240 = some (q244) → W p l e (rmo 5 116) s m args below meth c H locs 0 0 Q (F0 m 57 ls []) := by
                intro n
                induction n with
                | zero =>
                  intro v239 g240 H locs ls hw hl h283
                  rw [fX6_envy_L57] at h283
                  cases h283
                | succ n ih242 =>
                  intro v239 g240 H locs ls hw hl h284
                  rw [fX6_envy_L57] at h284
                  refine lv_iload hx hb dX6_envy_57 (lv_at hl 6 rfl) ?_
                  refine lv_bipush (v := 12) hx hb dX6_envy_59 (by decide) ?_
                  refine lv_icmp_ge (tgt := 101) hx hb dX6_envy_61 (by decide) (fun c245 => ?_) (fun c245 => ?_)
                  · rw [if_pos c245] at h284
                    obtain rfl := inj1 h284
                    exact kont241 _ _ _ hw (lv_sub hl [0, 1, 2, 3, 4, 5] rfl)
                  · rw [if_neg c245] at h284
                    refine lv_aload_n hx hb dX6_envy_64 rfl (lv_at hl 0 rfl) ?_
                    refine g_get F inG6 hw 0 rfl rfl 0 (by decide) t_730 (fun _ h9 => h9) rfl dX6_envy_65 ?_
                    refine lv_bipush (v := 23) hx hb dX6_envy_68 (by decide) ?_
                    refine lv_bipush (v := 12) hx hb dX6_envy_70 (by decide) ?_
                    refine lv_iload_n hx hb dX6_envy_72 rfl (lv_at hl 1 rfl) ?_
                    refine lv_imul hx hb dX6_envy_73 ?_
                    refine lv_iadd hx hb dX6_envy_74 ?_
                    refine lv_iload hx hb dX6_envy_75 (lv_at hl 6 rfl) ?_
                    refine lv_iadd hx hb dX6_envy_77 ?_
                    refine lv_aload_n hx hb dX6_envy_78 rfl (lv_at hl 0 rfl) ?_
                    refine g_get F inG6 hw 0 rfl rfl 11 (by decide) t_741 (fun _ h9 => h9) rfl dX6_envy_79 ?_
                    refine lv_bipush (v := 23) hx hb dX6_envy_82 (by decide) ?_
                    refine lv_bipush (v := 12) hx hb dX6_envy_84 (by decide) ?_
                    refine lv_iload hx hb dX6_envy_86 (lv_at hl 5 rfl) ?_
                    refine lv_imul hx hb dX6_envy_88 ?_
                    refine lv_iadd hx hb dX6_envy_89 ?_
                    refine lv_iload hx hb dX6_envy_90 (lv_at hl 6 rfl) ?_
                    refine lv_iadd hx hb dX6_envy_92 ?_
                    obtain ⟨j246, k247, h285⟩ := ob1 h284
                    clear h284
                    refine g_iald F hw 5 rfl k247 dX6_envy_93 ?_
                    obtain ⟨j248, k249, h286⟩ := ob1 h285
                    clear h285
                    refine g_iast F hw 1 rfl k249 dX6_envy_94 (w' := wM cy m0 m1 m2 m3 m4 m5 m6 m7 m8 m9 m10 (upd g240 j248 (f9 j246)) m_tape m_typed m_place m_isFault m_readWet m_readHarvest m_read m_undone m_undos m_bestGain f9 m_kept m_keptUndos m_isKept m_lanes m_sizes m_items m_moved) rfl (fun H locs hw => ?_)
                    refine lv_iinc (v := (v239 + 1)) (lv' := [(6, .int (v239 + 1)), (0, .ref m0), (1, .int i1), (2, .int i2), (3, .int v173), (4, .int v174), (5, .int v175)]) hx hb dX6_envy_95 hl (k := 6) rfl rfl (by decide) rfl (fun ls hl => ?_)
                    refine lv_goto (tgt := 57) hx hb dX6_envy_98 (by decide) ?_
                    exact ih242 (v239 + 1) (upd g240 j248 (f9 j246)) _ _ _ hw (lv_sub hl [1, 2, 3, 4, 5, 6, 0] rfl) h286
              exact loop243 fl 0 g176 _ _ _ hw (lv_sub hl [1, 2, 3, 4, 5, 6, 0] rfl) h275
      exact loop179 fl r7 (-4) 0 m_now _ _ _ hw (lv_sub hl [3, 4, 5, 2, 1, 0] rfl) h268
    · rw [if_pos c6] at h265
      refine lv_iconst (v := (-1)) hx hb dX6_envy_18 (by decide) ?_
      obtain ⟨rfl, rfl, rfl⟩ := inj3 h265
      exact hret _ _ _ _ hw dX6_envy_19
theorem cal_X6_both : CalV yX6_both cX6_both 3 (some .int) RX6 2 := ⟨t_1035, t_1033, t_1034, t_43, by decide +kernel⟩
set_option maxHeartbeats 4000000 in
set_option maxRecDepth 100000 in
theorem cX6_both_ok (l : Launch) (d : va_G) (cy : Nat → ClassId) (m0 m1 m2 m3 m4 m5 m6 m7 m8 m9 m10 : Nat) (m_now : Nat → Int32) (m_tape : Nat → Int32) (m_typed : Int32) (m_place : Int32) (m_isFault : Int32) (m_readWet : Int32) (m_readHarvest : Int32) (m_read : Nat → Int32) (m_undone : Nat → Int32) (m_undos : Int32) (m_bestGain : Int32) (m_aside : Nat → Int32) (m_kept : Nat → Int32) (m_keptUndos : Int32) (m_isKept : Int32) (m_lanes : Nat → Int32) (m_sizes : Nat → Int32) (m_items : Nat → Int64) (m_moved : Nat → Int64) (i1 : Int32) (i2 : Int32) (r : Int32) (h0 : fX6_both m_now i1 i2 = some (r)) : CI l yX6_both cX6_both 3 (some .int) 3 67 d cy [.ref m0, .int i1, .int i2] (wM cy m0 m1 m2 m3 m4 m5 m6 m7 m8 m9 m10 m_now m_tape m_typed m_place m_isFault m_readWet m_readHarvest m_read m_undone m_undos m_bestGain m_aside m_kept m_keptUndos m_isKept m_lanes m_sizes m_items m_moved) (wM cy m0 m1 m2 m3 m4 m5 m6 m7 m8 m9 m10 m_now m_tape m_typed m_place m_isFault m_readWet m_readHarvest m_read m_undone m_undos m_bestGain m_aside m_kept m_keptUndos m_isKept m_lanes m_sizes m_items m_moved) r := by
  refine CI.of (by decide) (Nat.le_of_ble_eq_true rfl) ?_
  intro p e s m args below meth c A ls Q F hret hw hl
  have hx := F.1
  have hb := F.2.1
  have hl : lv_has ls 3 [(0, .ref m0), (1, .int i1), (2, .int i2)] := hl
  rw [fX6_both] at h0
  refine lv_aload_n hx hb dX6_both_0 rfl (lv_at hl 0 rfl) ?_
  refine lv_iload_n hx hb dX6_both_1 rfl (lv_at hl 1 rfl) ?_
  obtain ⟨r1, k2, h11⟩ := ob1 h0
  clear h0
  refine g_vi F (cX6_isPerson_ok l d cy m0 m1 m2 m3 m4 m5 m6 m7 m8 m9 m10 m_now m_tape m_typed m_place m_isFault m_readWet m_readHarvest m_read m_undone m_undos m_bestGain m_aside m_kept m_keptUndos m_isKept m_lanes m_sizes m_items m_moved i1 r1 k2) cal_X6_isPerson t_804 rfl ⟨by decide, by decide⟩ hw (w' := wM cy m0 m1 m2 m3 m4 m5 m6 m7 m8 m9 m10 m_now m_tape m_typed m_place m_isFault m_readWet m_readHarvest m_read m_undone m_undos m_bestGain m_aside m_kept m_keptUndos m_isKept m_lanes m_sizes m_items m_moved) Cut.all 0 6 rfl rfl hl.1 (Nat.le_of_ble_eq_true rfl) rfl dX6_both_2 (fun H locs hw => ?_)
  refine lv_if_eq (tgt := 30) hx hb dX6_both_5 (by decide) (fun c3 => ?_) (fun c3 => ?_)
  · rw [if_pos c3] at h11
    refine lv_iconst (v := (-1)) hx hb dX6_both_30 (by decide) ?_
    obtain rfl := inj1 h11
    exact hret _ _ _ _ hw dX6_both_31
  · rw [if_neg c3] at h11
    refine lv_aload_n hx hb dX6_both_8 rfl (lv_at hl 0 rfl) ?_
    refine lv_iload_n hx hb dX6_both_9 rfl (lv_at hl 2 rfl) ?_
    obtain ⟨r4, k5, h12⟩ := ob1 h11
    clear h11
    refine g_vi F (cX6_isPerson_ok l d cy m0 m1 m2 m3 m4 m5 m6 m7 m8 m9 m10 m_now m_tape m_typed m_place m_isFault m_readWet m_readHarvest m_read m_undone m_undos m_bestGain m_aside m_kept m_keptUndos m_isKept m_lanes m_sizes m_items m_moved i2 r4 k5) cal_X6_isPerson t_804 rfl ⟨by decide, by decide⟩ hw (w' := wM cy m0 m1 m2 m3 m4 m5 m6 m7 m8 m9 m10 m_now m_tape m_typed m_place m_isFault m_readWet m_readHarvest m_read m_undone m_undos m_bestGain m_aside m_kept m_keptUndos m_isKept m_lanes m_sizes m_items m_moved) Cut.all 0 6 rfl rfl hl.1 (Nat.le_of_ble_eq_true rfl) rfl dX6_both_10 (fun H locs hw => ?_)
    refine lv_if_eq (tgt := 30) hx hb dX6_both_13 (by decide) (fun c6 => ?_) (fun c6 => ?_)
    · rw [if_pos c6] at h12
      refine lv_iconst (v := (-1)) hx hb dX6_both_30 (by decide) ?_
      obtain rfl := inj1 h12
      exact hret _ _ _ _ hw dX6_both_31
    · rw [if_neg c6] at h12
      refine lv_aload_n hx hb dX6_both_16 rfl (lv_at hl 0 rfl) ?_
      refine lv_iload_n hx hb dX6_both_17 rfl (lv_at hl 1 rfl) ?_
      obtain ⟨r7, k8, h13⟩ := ob1 h12
      clear h12
      refine g_vi F (cX6_halves_ok l d cy m0 m1 m2 m3 m4 m5 m6 m7 m8 m9 m10 m_now m_tape m_typed m_place m_isFault m_readWet m_readHarvest m_read m_undone m_undos m_bestGain m_aside m_kept m_keptUndos m_isKept m_lanes m_sizes m_items m_moved i1 r7 k8) cal_X6_halves t_822 rfl ⟨by decide, by decide⟩ hw (w' := wM cy m0 m1 m2 m3 m4 m5 m6 m7 m8 m9 m10 m_now m_tape m_typed m_place m_isFault m_readWet m_readHarvest m_read m_undone m_undos m_bestGain m_aside m_kept m_keptUndos m_isKept m_lanes m_sizes m_items m_moved) Cut.all 0 6 rfl rfl hl.1 (Nat.le_of_ble_eq_true rfl) rfl dX6_both_18 (fun H locs hw => ?_)
      refine lv_aload_n hx hb dX6_both_21 rfl (lv_at hl 0 rfl) ?_
      refine lv_iload_n hx hb dX6_both_22 rfl (lv_at hl 2 rfl) ?_
      obtain ⟨r9, k10, h14⟩ := ob1 h13
      clear h13
      refine g_vi F (cX6_halves_ok l d cy m0 m1 m2 m3 m4 m5 m6 m7 m8 m9 m10 m_now m_tape m_typed m_place m_isFault m_readWet m_readHarvest m_read m_undone m_undos m_bestGain m_aside m_kept m_keptUndos m_isKept m_lanes m_sizes m_items m_moved i2 r9 k10) cal_X6_halves t_822 rfl ⟨by decide, by decide⟩ hw (w' := wM cy m0 m1 m2 m3 m4 m5 m6 m7 m8 m9 m10 m_now m_tape m_typed m_place m_isFault m_readWet m_readHarvest m_read m_undone m_undos m_bestGain m_aside m_kept m_keptUndos m_isKept m_lanes m_sizes m_items m_moved) Cut.all 0 6 rfl rfl hl.1 (Nat.le_of_ble_eq_true rfl) rfl dX6_both_23 (fun H locs hw => ?_)
      refine lv_iand hx hb dX6_both_26 ?_
      refine lv_goto (tgt := 31) hx hb dX6_both_27 (by decide) ?_
      obtain rfl := inj1 h14
      exact hret _ _ _ _ hw dX6_both_31
theorem cal_X6_hands : CalV yX6_hands cX6_hands 4 (some .int) RX6 1 := ⟨t_1039, t_1037, t_1038, t_43, by decide +kernel⟩
set_option maxHeartbeats 4000000 in
set_option maxRecDepth 100000 in
theorem cX6_hands_ok (l : Launch) (d : va_G) (cy : Nat → ClassId) (m0 m1 m2 m3 m4 m5 m6 m7 m8 m9 m10 : Nat) (m_now : Nat → Int32) (m_tape : Nat → Int32) (m_typed : Int32) (m_place : Int32) (m_isFault : Int32) (m_readWet : Int32) (m_readHarvest : Int32) (m_read : Nat → Int32) (m_undone : Nat → Int32) (m_undos : Int32) (m_bestGain : Int32) (m_aside : Nat → Int32) (m_kept : Nat → Int32) (m_keptUndos : Int32) (m_isKept : Int32) (m_lanes : Nat → Int32) (m_sizes : Nat → Int32) (m_items : Nat → Int64) (m_moved : Nat → Int64) (i1 : Int32) (r : Int32) (h0 : fX6_hands m_now i1 = some (r)) : CI l yX6_hands cX6_hands 4 (some .int) 2 45 d cy [.ref m0, .int i1] (wM cy m0 m1 m2 m3 m4 m5 m6 m7 m8 m9 m10 m_now m_tape m_typed m_place m_isFault m_readWet m_readHarvest m_read m_undone m_undos m_bestGain m_aside m_kept m_keptUndos m_isKept m_lanes m_sizes m_items m_moved) (wM cy m0 m1 m2 m3 m4 m5 m6 m7 m8 m9 m10 m_now m_tape m_typed m_place m_isFault m_readWet m_readHarvest m_read m_undone m_undos m_bestGain m_aside m_kept m_keptUndos m_isKept m_lanes m_sizes m_items m_moved) r := by
  refine CI.of (by decide) (Nat.le_of_ble_eq_true rfl) ?_
  intro p e s m args below meth c A ls Q F hret hw hl
  have hx := F.1
  have hb := F.2.1
  have hl : lv_has ls 4 [(0, .ref m0), (1, .int i1)] := hl
  rw [fX6_hands] at h0
  refine lv_iload_n hx hb dX6_hands_0 rfl (lv_at hl 1 rfl) ?_
  obtain ⟨r1, k2, h39⟩ := ob1 h0
  clear h0
  refine g_si F (cX6_isHalf_ok l d cy i1 r1 k2) cal_X6_isHalf t_854 rfl ⟨by decide, by decide⟩ hw (w' := wM cy m0 m1 m2 m3 m4 m5 m6 m7 m8 m9 m10 m_now m_tape m_typed m_place m_isFault m_readWet m_readHarvest m_read m_undone m_undos m_bestGain m_aside m_kept m_keptUndos m_isKept m_lanes m_sizes m_items m_moved) Cut.nil hl.1 (Nat.le_of_ble_eq_true rfl) rfl dX6_hands_1 (fun H locs hw => ?_)
  refine lv_if_ne (tgt := 9) hx hb dX6_hands_4 (by decide) (fun c3 => ?_) (fun c3 => ?_)
  · rw [if_neg c3] at h39
    refine lv_iconst (v := 0) hx hb dX6_hands_9 (by decide) ?_
    refine lv_istore_n (lv' := [(2, .int 0), (0, .ref m0), (1, .int i1)]) hx hb dX6_hands_10 rfl hl (by decide) rfl (fun ls hl => ?_)
    refine lv_iconst (v := 0) hx hb dX6_hands_11 (by decide) ?_
    refine lv_istore_n (lv' := [(3, .int 0), (2, .int 0), (0, .ref m0), (1, .int i1)]) hx hb dX6_hands_12 rfl hl (by decide) rfl (fun ls hl => ?_)
    obtain ⟨o29, h40, h41⟩ := ob1 h39
    clear h39
    have kont26 : ∀ (H : Heap) (locs : List Loc) (ls : Array Slot), Wd d A s.heap (wM cy m0 m1 m2 m3 m4 m5 m6 m7 m8 m9 m10 m_now m_tape m_typed m_place m_isFault m_readWet m_readHarvest m_read m_undone m_undos m_bestGain m_aside m_kept m_keptUndos m_isKept m_lanes m_sizes m_items m_moved) H locs → lv_has ls 4 [(2, .int o29)] → W p l e (rmo 2 45) s m args below meth c H locs 0 0 Q (F0 m 48 ls []) := by
      intro H locs ls hw hl
      clear h40
      refine lv_iload_n hx hb dX6_hands_48 rfl (lv_at hl 0 rfl) ?_
      obtain rfl := inj1 h41
      exact hret _ _ _ _ hw dX6_hands_49
    clear h41
    have loop28 : ∀ (n : Nat) (v24 : Int32) (v25 : Int32) (H : Heap) (locs : List Loc) (ls : Array Slot), Wd d A s.heap (wM cy m0 m1 m2 m3 m4 m5 m6 m7 m8 m9 m10 m_now m_tape m_typed m_place m_isFault m_readWet m_readHarvest m_read m_undone m_undos m_bestGain m_aside m_kept m_keptUndos m_isKept m_lanes m_sizes m_items m_moved) H locs → lv_has ls 4 [(0, .ref m0), (1, .int i1), (2, .int v24), (3, .int v25)] → fX6_hands_L13 i1 m_now n v24 v25 = some (o29) → W p l e (rmo 2 45) s m args below meth c H locs 0 0 Q (F0 m 13 ls []) := by
      intro n
      induction n with
      | zero =>
        intro v24 v25 H locs ls hw hl h42
        rw [fX6_hands_L13] at h42
        cases h42
      | succ n ih27 =>
        intro v24 v25 H locs ls hw hl h43
        rw [fX6_hands_L13] at h43
        refine lv_iload_n hx hb dX6_hands_13 rfl (lv_at hl 3 rfl) ?_
        refine lv_aload_n hx hb dX6_hands_14 rfl (lv_at hl 0 rfl) ?_
        refine g_get F inG6 hw 0 rfl rfl 0 (by decide) t_730 (fun _ h9 => h9) rfl dX6_hands_15 ?_
        refine lv_iconst (v := 0) hx hb dX6_hands_18 (by decide) ?_
        obtain ⟨j30, k31, h44⟩ := ob1 h43
        clear h43
        refine g_iald F hw 1 rfl k31 dX6_hands_19 ?_
        refine lv_icmp_ge (tgt := 48) hx hb dX6_hands_20 (by decide) (fun c32 => ?_) (fun c32 => ?_)
        · rw [if_pos c32] at h44
          obtain rfl := inj1 h44
          exact kont26 _ _ _ hw (lv_sub hl [2] rfl)
        · rw [if_neg c32] at h44
          refine lv_iload_n hx hb dX6_hands_23 rfl (lv_at hl 2 rfl) ?_
          refine lv_aload_n hx hb dX6_hands_24 rfl (lv_at hl 0 rfl) ?_
          refine lv_iload_n hx hb dX6_hands_25 rfl (lv_at hl 3 rfl) ?_
          refine lv_iload_n hx hb dX6_hands_26 rfl (lv_at hl 1 rfl) ?_
          obtain ⟨r33, k34, h45⟩ := ob1 h44
          clear h44
          refine g_vi F (cX6_hasOne_ok l d cy m0 m1 m2 m3 m4 m5 m6 m7 m8 m9 m10 m_now m_tape m_typed m_place m_isFault m_readWet m_readHarvest m_read m_undone m_undos m_bestGain m_aside m_kept m_keptUndos m_isKept m_lanes m_sizes m_items m_moved v25 i1 r33 k34) cal_X6_hasOne t_826 rfl ⟨by decide, by decide⟩ hw (w' := wM cy m0 m1 m2 m3 m4 m5 m6 m7 m8 m9 m10 m_now m_tape m_typed m_place m_isFault m_readWet m_readHarvest m_read m_undone m_undos m_bestGain m_aside m_kept m_keptUndos m_isKept m_lanes m_sizes m_items m_moved) Cut.all 0 6 rfl rfl hl.1 (Nat.le_of_ble_eq_true rfl) rfl dX6_hands_27 (fun H locs hw => ?_)
          obtain ⟨x36, h46, h47⟩ := ob1 h45
          clear h45
          have kont37 : ∀ (H : Heap) (locs : List Loc) (ls : Array Slot), Wd d A s.heap (wM cy m0 m1 m2 m3 m4 m5 m6 m7 m8 m9 m10 m_now m_tape m_typed m_place m_isFault m_readWet m_readHarvest m_read m_undone m_undos m_bestGain m_aside m_kept m_keptUndos m_isKept m_lanes m_sizes m_items m_moved) H locs → lv_has ls 4 [(0, .ref m0), (1, .int i1), (3, .int v25)] → W p l e (rmo 2 45) s m args below meth c H locs 0 0 Q (F0 m 40 ls [.int x36, .int v24]) := by
            intro H locs ls hw hl
            clear h46
            refine lv_ior hx hb dX6_hands_40 ?_
            refine lv_istore_n (lv' := [(2, .int (v24 ||| x36)), (0, .ref m0), (1, .int i1), (3, .int v25)]) hx hb dX6_hands_41 rfl hl (by decide) rfl (fun ls hl => ?_)
            refine lv_iinc (v := (v25 + 1)) (lv' := [(3, .int (v25 + 1)), (2, .int (v24 ||| x36)), (0, .ref m0), (1, .int i1)]) hx hb dX6_hands_42 hl (k := 3) rfl rfl (by decide) rfl (fun ls hl => ?_)
            refine lv_goto (tgt := 13) hx hb dX6_hands_45 (by decide) ?_
            exact ih27 (v24 ||| x36) (v25 + 1) _ _ _ hw (lv_sub hl [2, 3, 1, 0] rfl) h47
          clear h47
          refine lv_if_eq (tgt := 37) hx hb dX6_hands_30 (by decide) (fun c38 => ?_) (fun c38 => ?_)
          · rw [if_pos c38] at h46
            refine lv_iconst (v := 1) hx hb dX6_hands_37 (by decide) ?_
            refine lv_iload_n hx hb dX6_hands_38 rfl (lv_at hl 3 rfl) ?_
            refine lv_ishl hx hb dX6_hands_39 ?_
            obtain rfl := inj1 h46
            exact kont37 _ _ _ hw (lv_sub hl [0, 1, 3] rfl)
          · rw [if_neg c38] at h46
            refine lv_iconst (v := 0) hx hb dX6_hands_33 (by decide) ?_
            refine lv_goto (tgt := 40) hx hb dX6_hands_34 (by decide) ?_
            obtain rfl := inj1 h46
            exact kont37 _ _ _ hw (lv_sub hl [0, 1, 3] rfl)
    exact loop28 fl 0 0 _ _ _ hw (lv_sub hl [2, 3, 1, 0] rfl) h40
  · rw [if_pos c3] at h39
    refine lv_iconst (v := (-1)) hx hb dX6_hands_7 (by decide) ?_
    obtain rfl := inj1 h39
    exact hret _ _ _ _ hw dX6_hands_8
theorem cal_X6_rain : CalV yX6_rain cX6_rain 11 (some .int) RX6 4 := ⟨t_1043, t_1041, t_1042, t_43, by decide +kernel⟩
set_option maxHeartbeats 4000000 in
set_option maxRecDepth 100000 in
theorem cX6_rain_ok (l : Launch) (d : va_G) (cy : Nat → ClassId) (m0 m1 m2 m3 m4 m5 m6 m7 m8 m9 m10 : Nat) (m_now : Nat → Int32) (m_tape : Nat → Int32) (m_typed : Int32) (m_place : Int32) (m_isFault : Int32) (m_readWet : Int32) (m_readHarvest : Int32) (m_read : Nat → Int32) (m_undone : Nat → Int32) (m_undos : Int32) (m_bestGain : Int32) (m_aside : Nat → Int32) (m_kept : Nat → Int32) (m_keptUndos : Int32) (m_isKept : Int32) (m_lanes : Nat → Int32) (m_sizes : Nat → Int32) (m_items : Nat → Int64) (m_moved : Nat → Int64) (i1 : Int32) (i2 : Int32) (i3 : Int32) (i4 : Int32) (r : Int32) (m_now_r : Nat → Int32) (h0 : fX6_rain m_now i1 i2 i3 i4 = some (r, m_now_r)) : CI l yX6_rain cX6_rain 11 (some .int) 5 116 d cy [.ref m0, .int i1, .int i2, .int i3, .int i4] (wM cy m0 m1 m2 m3 m4 m5 m6 m7 m8 m9 m10 m_now m_tape m_typed m_place m_isFault m_readWet m_readHarvest m_read m_undone m_undos m_bestGain m_aside m_kept m_keptUndos m_isKept m_lanes m_sizes m_items m_moved) (wM cy m0 m1 m2 m3 m4 m5 m6 m7 m8 m9 m10 m_now_r m_tape m_typed m_place m_isFault m_readWet m_readHarvest m_read m_undone m_undos m_bestGain m_aside m_kept m_keptUndos m_isKept m_lanes m_sizes m_items m_moved) r := by
  refine CI.of (by decide) (Nat.le_of_ble_eq_true rfl) ?_
  intro p e s m args below meth c A ls Q F hret hw hl
  have hx := F.1
  have hb := F.2.1
  have hl : lv_has ls 11 [(0, .ref m0), (1, .int i1), (2, .int i2), (3, .int i3), (4, .int i4)] := hl
  rw [fX6_rain] at h0
  refine lv_aload_n hx hb dX6_rain_0 rfl (lv_at hl 0 rfl) ?_
  refine lv_iload_n hx hb dX6_rain_1 rfl (lv_at hl 1 rfl) ?_
  obtain ⟨r1, k2, h289⟩ := ob1 h0
  clear h0
  refine g_vi F (cX6_isPerson_ok l d cy m0 m1 m2 m3 m4 m5 m6 m7 m8 m9 m10 m_now m_tape m_typed m_place m_isFault m_readWet m_readHarvest m_read m_undone m_undos m_bestGain m_aside m_kept m_keptUndos m_isKept m_lanes m_sizes m_items m_moved i1 r1 k2) cal_X6_isPerson t_804 rfl ⟨by decide, by decide⟩ hw (w' := wM cy m0 m1 m2 m3 m4 m5 m6 m7 m8 m9 m10 m_now m_tape m_typed m_place m_isFault m_readWet m_readHarvest m_read m_undone m_undos m_bestGain m_aside m_kept m_keptUndos m_isKept m_lanes m_sizes m_items m_moved) Cut.all 0 6 rfl rfl hl.1 (Nat.le_of_ble_eq_true rfl) rfl dX6_rain_2 (fun H locs hw => ?_)
  refine lv_if_eq (tgt := 43) hx hb dX6_rain_5 (by decide) (fun c3 => ?_) (fun c3 => ?_)
  · rw [if_pos c3] at h289
    refine lv_iconst (v := (-1)) hx hb dX6_rain_43 (by decide) ?_
    obtain ⟨rfl, rfl⟩ := inj2 h289
    exact hret _ _ _ _ hw dX6_rain_44
  · rw [if_neg c3] at h289
    refine lv_iload_n hx hb dX6_rain_8 rfl (lv_at hl 2 rfl) ?_
    refine lv_i2l hx hb dX6_rain_9 rfl ?_
    refine lv_lconst (v := 0) hx hb dX6_rain_10 (by decide) ?_
    refine lv_ldc2 (v := 300) hx hb F.2.2.2.2.2.1 (F.2.2.2.2.2.2.1 _ t_1044) dX6_rain_11 ?_
    obtain ⟨r4, k5, h290⟩ := ob1 h289
    clear h289
    refine g_si F (cX6_in_ok l d cy (Int32.toInt64 i2) 0 300 r4 k5) cal_X6_in t_793 rfl ⟨by decide, by decide⟩ hw (w' := wM cy m0 m1 m2 m3 m4 m5 m6 m7 m8 m9 m10 m_now m_tape m_typed m_place m_isFault m_readWet m_readHarvest m_read m_undone m_undos m_bestGain m_aside m_kept m_keptUndos m_isKept m_lanes m_sizes m_items m_moved) Cut.nil hl.1 (Nat.le_of_ble_eq_true rfl) rfl dX6_rain_14 (fun H locs hw => ?_)
    refine lv_if_eq (tgt := 43) hx hb dX6_rain_17 (by decide) (fun c6 => ?_) (fun c6 => ?_)
    · rw [if_pos c6] at h290
      refine lv_iconst (v := (-1)) hx hb dX6_rain_43 (by decide) ?_
      obtain ⟨rfl, rfl⟩ := inj2 h290
      exact hret _ _ _ _ hw dX6_rain_44
    · rw [if_neg c6] at h290
      refine lv_iload_n hx hb dX6_rain_20 rfl (lv_at hl 3 rfl) ?_
      refine lv_i2l hx hb dX6_rain_21 rfl ?_
      refine lv_lconst (v := 0) hx hb dX6_rain_22 (by decide) ?_
      refine lv_ldc2 (v := 10) hx hb F.2.2.2.2.2.1 (F.2.2.2.2.2.2.1 _ t_1045) dX6_rain_23 ?_
      obtain ⟨r7, k8, h291⟩ := ob1 h290
      clear h290
      refine g_si F (cX6_in_ok l d cy (Int32.toInt64 i3) 0 10 r7 k8) cal_X6_in t_793 rfl ⟨by decide, by decide⟩ hw (w' := wM cy m0 m1 m2 m3 m4 m5 m6 m7 m8 m9 m10 m_now m_tape m_typed m_place m_isFault m_readWet m_readHarvest m_read m_undone m_undos m_bestGain m_aside m_kept m_keptUndos m_isKept m_lanes m_sizes m_items m_moved) Cut.nil hl.1 (Nat.le_of_ble_eq_true rfl) rfl dX6_rain_26 (fun H locs hw => ?_)
      refine lv_if_eq (tgt := 43) hx hb dX6_rain_29 (by decide) (fun c9 => ?_) (fun c9 => ?_)
      · rw [if_pos c9] at h291
        refine lv_iconst (v := (-1)) hx hb dX6_rain_43 (by decide) ?_
        obtain ⟨rfl, rfl⟩ := inj2 h291
        exact hret _ _ _ _ hw dX6_rain_44
      · rw [if_neg c9] at h291
        refine lv_iload hx hb dX6_rain_32 (lv_at hl 4 rfl) ?_
        refine lv_i2l hx hb dX6_rain_34 rfl ?_
        refine lv_lconst (v := 0) hx hb dX6_rain_35 (by decide) ?_
        refine lv_lconst (v := 1) hx hb dX6_rain_36 (by decide) ?_
        obtain ⟨r10, k11, h292⟩ := ob1 h291
        clear h291
        refine g_si F (cX6_in_ok l d cy (Int32.toInt64 i4) 0 1 r10 k11) cal_X6_in t_793 rfl ⟨by decide, by decide⟩ hw (w' := wM cy m0 m1 m2 m3 m4 m5 m6 m7 m8 m9 m10 m_now m_tape m_typed m_place m_isFault m_readWet m_readHarvest m_read m_undone m_undos m_bestGain m_aside m_kept m_keptUndos m_isKept m_lanes m_sizes m_items m_moved) Cut.nil hl.1 (Nat.le_of_ble_eq_true rfl) rfl dX6_rain_37 (fun H locs hw => ?_)
        refine lv_if_ne (tgt := 45) hx hb dX6_rain_40 (by decide) (fun c12 => ?_) (fun c12 => ?_)
        · rw [if_neg c12] at h292
          refine lv_aload_n hx hb dX6_rain_45 rfl (lv_at hl 0 rfl) ?_
          refine g_get F inG6 hw 0 rfl rfl 0 (by decide) t_730 (fun _ h9 => h9) rfl dX6_rain_46 ?_
          refine lv_iconst (v := 2) hx hb dX6_rain_49 (by decide) ?_
          obtain ⟨j13, k14, h293⟩ := ob1 h292
          clear h292
          refine g_iald F hw 1 rfl k14 dX6_rain_50 ?_
          refine lv_istore (lv' := [(5, .int (m_now j13)), (0, .ref m0), (1, .int i1), (2, .int i2), (3, .int i3), (4, .int i4)]) hx hb dX6_rain_51 hl (by decide) rfl (fun ls hl => ?_)
          refine lv_iconst (v := 0) hx hb dX6_rain_53 (by decide) ?_
          refine lv_istore (lv' := [(6, .int 0), (5, .int (m_now j13)), (0, .ref m0), (1, .int i1), (2, .int i2), (3, .int i3), (4, .int i4)]) hx hb dX6_rain_54 hl (by decide) rfl (fun ls hl => ?_)
          refine lv_iconst (v := 0) hx hb dX6_rain_56 (by decide) ?_
          refine lv_istore (lv' := [(7, .int 0), (6, .int 0), (5, .int (m_now j13)), (0, .ref m0), (1, .int i1), (2, .int i2), (3, .int i3), (4, .int i4)]) hx hb dX6_rain_57 hl (by decide) rfl (fun ls hl => ?_)
          refine lv_iconst (v := 0) hx hb dX6_rain_59 (by decide) ?_
          refine lv_istore (lv' := [(8, .int 0), (7, .int 0), (6, .int 0), (5, .int (m_now j13)), (0, .ref m0), (1, .int i1), (2, .int i2), (3, .int i3), (4, .int i4)]) hx hb dX6_rain_60 hl (by decide) rfl (fun ls hl => ?_)
          obtain ⟨q188, o189, o190, h294, h295⟩ := ob3 h293
          clear h293
          have kont185 : ∀ (H : Heap) (locs : List Loc) (ls : Array Slot), Wd d A s.heap (wM cy m0 m1 m2 m3 m4 m5 m6 m7 m8 m9 m10 q188 m_tape m_typed m_place m_isFault m_readWet m_readHarvest m_read m_undone m_undos m_bestGain m_aside m_kept m_keptUndos m_isKept m_lanes m_sizes m_items m_moved) H locs → lv_has ls 11 [(0, .ref m0), (4, .int i4), (5, .int (m_now j13)), (6, .int o189), (7, .int o190)] → W p l e (rmo 5 116) s m args below meth c H locs 0 0 Q (F0 m 179 ls []) := by
            intro H locs ls hw hl
            clear h294
            refine lv_aload_n hx hb dX6_rain_179 rfl (lv_at hl 0 rfl) ?_
            refine g_get F inG6 hw 0 rfl rfl 0 (by decide) t_730 (fun _ h9 => h9) rfl dX6_rain_180 ?_
            refine lv_iconst (v := 2) hx hb dX6_rain_183 (by decide) ?_
            refine lv_iload hx hb dX6_rain_184 (lv_at hl 2 rfl) ?_
            refine g_iast F hw 1 rfl k14 dX6_rain_186 (w' := wM cy m0 m1 m2 m3 m4 m5 m6 m7 m8 m9 m10 (upd q188 j13 (m_now j13)) m_tape m_typed m_place m_isFault m_readWet m_readHarvest m_read m_undone m_undos m_bestGain m_aside m_kept m_keptUndos m_isKept m_lanes m_sizes m_items m_moved) rfl (fun H locs hw => ?_)
            refine lv_iload hx hb dX6_rain_187 (lv_at hl 3 rfl) ?_
            refine lv_istore (lv' := [(8, .int o189), (0, .ref m0), (4, .int i4), (5, .int (m_now j13)), (6, .int o189), (7, .int o190)]) hx hb dX6_rain_189 hl (by decide) rfl (fun ls hl => ?_)
            refine lv_iload hx hb dX6_rain_191 (lv_at hl 5 rfl) ?_
            refine lv_istore (lv' := [(9, .int o190), (8, .int o189), (0, .ref m0), (4, .int i4), (5, .int (m_now j13)), (6, .int o189), (7, .int o190)]) hx hb dX6_rain_193 hl (by decide) rfl (fun ls hl => ?_)
            obtain ⟨o283, h296, h297⟩ := ob1 h295
            clear h295
            have kont280 : ∀ (H : Heap) (locs : List Loc) (ls : Array Slot), Wd d A s.heap (wM cy m0 m1 m2 m3 m4 m5 m6 m7 m8 m9 m10 (upd q188 j13 (m_now j13)) m_tape m_typed m_place m_isFault m_readWet m_readHarvest m_read m_undone m_undos m_bestGain m_aside m_kept m_keptUndos m_isKept m_lanes m_sizes m_items m_moved) H locs → lv_has ls 11 [(4, .int i4), (6, .int o189), (7, .int o190), (8, .int o283)] → W p l e (rmo 5 116) s m args below meth c H locs 0 0 Q (F0 m 218 ls []) := by
              intro H locs ls hw hl
              clear h296
              refine lv_iload hx hb dX6_rain_218 (lv_at hl 0 rfl) ?_
              refine lv_if_ne (tgt := 231) hx hb dX6_rain_220 (by decide) (fun c286 => ?_) (fun c286 => ?_)
              · rw [if_neg c286] at h297
                refine lv_iload hx hb dX6_rain_231 (lv_at hl 2 rfl) ?_
                refine lv_iload hx hb dX6_rain_233 (lv_at hl 3 rfl) ?_
                obtain ⟨k287, h298⟩ := ob0 h297
                clear h297
                refine lv_idiv hx hb dX6_rain_235 (nz_ne k287) ?_
                obtain ⟨rfl, rfl⟩ := inj2 h298
                exact hret _ _ _ _ hw dX6_rain_236
              · rw [if_pos c286] at h297
                refine lv_iload hx hb dX6_rain_223 (lv_at hl 1 rfl) ?_
                refine lv_iload hx hb dX6_rain_225 (lv_at hl 3 rfl) ?_
                obtain ⟨k288, h299⟩ := ob0 h297
                clear h297
                refine lv_idiv hx hb dX6_rain_227 (nz_ne k288) ?_
                refine lv_goto (tgt := 236) hx hb dX6_rain_228 (by decide) ?_
                obtain ⟨rfl, rfl⟩ := inj2 h299
                exact hret _ _ _ _ hw dX6_rain_236
            clear h297
            have loop282 : ∀ (n : Nat) (v278 : Int32) (v279 : Int32) (H : Heap) (locs : List Loc) (ls : Array Slot), Wd d A s.heap (wM cy m0 m1 m2 m3 m4 m5 m6 m7 m8 m9 m10 (upd q188 j13 (m_now j13)) m_tape m_typed m_place m_isFault m_readWet m_readHarvest m_read m_undone m_undos m_bestGain m_aside m_kept m_keptUndos m_isKept m_lanes m_sizes m_items m_moved) H locs → lv_has ls 11 [(4, .int i4), (6, .int o189), (7, .int o190), (8, .int v278), (9, .int v279)] → fX6_rain_L195 n v278 v279 = some (o283) → W p l e (rmo 5 116) s m args below meth c H locs 0 0 Q (F0 m 195 ls []) := by
              intro n
              induction n with
              | zero =>
                intro v278 v279 H locs ls hw hl h300
                rw [fX6_rain_L195] at h300
                cases h300
              | succ n ih281 =>
                intro v278 v279 H locs ls hw hl h301
                rw [fX6_rain_L195] at h301
                refine lv_iload hx hb dX6_rain_195 (lv_at hl 4 rfl) ?_
                refine lv_if_eq (tgt := 218) hx hb dX6_rain_197 (by decide) (fun c284 => ?_) (fun c284 => ?_)
                · rw [if_pos c284] at h301
                  obtain rfl := inj1 h301
                  exact kont280 _ _ _ hw (lv_sub hl [0, 1, 2, 3] rfl)
                · rw [if_neg c284] at h301
                  refine lv_iload hx hb dX6_rain_200 (lv_at hl 3 rfl) ?_
                  refine lv_iload hx hb dX6_rain_202 (lv_at hl 4 rfl) ?_
                  obtain ⟨k285, h302⟩ := ob0 h301
                  clear h301
                  refine lv_irem hx hb dX6_rain_204 (nz_ne k285) ?_
                  refine lv_istore (lv' := [(10, .int (v278 - v278 / v279 * v279)), (4, .int i4), (6, .int o189), (7, .int o190), (8, .int v278), (9, .int v279)]) hx hb dX6_rain_205 hl (by decide) rfl (fun ls hl => ?_)
                  refine lv_iload hx hb dX6_rain_207 (lv_at hl 5 rfl) ?_
                  refine lv_istore (lv' := [(8, .int v279), (10, .int (v278 - v278 / v279 * v279)), (4, .int i4), (6, .int o189), (7, .int o190), (9, .int v279)]) hx hb dX6_rain_209 hl (by decide) rfl (fun ls hl => ?_)
                  refine lv_iload hx hb dX6_rain_211 (lv_at hl 1 rfl) ?_
                  refine lv_istore (lv' := [(9, .int (v278 - v278 / v279 * v279)), (8, .int v279), (10, .int (v278 - v278 / v279 * v279)), (4, .int i4), (6, .int o189), (7, .int o190)]) hx hb dX6_rain_213 hl (by decide) rfl (fun ls hl => ?_)
                  refine lv_goto (tgt := 195) hx hb dX6_rain_215 (by decide) ?_
                  exact ih281 v279 (v278 - v278 / v279 * v279) _ _ _ hw (lv_sub hl [3, 4, 5, 1, 0] rfl) h302
            exact loop282 fl o189 o190 _ _ _ hw (lv_sub hl [3, 5, 6, 1, 0] rfl) h296
          clear h295
          have loop187 : ∀ (n : Nat) (v181 : Int32) (v182 : Int32) (v183 : Int32) (g184 : Nat → Int32) (H : Heap) (locs : List Loc) (ls : Array Slot), Wd d A s.heap (wM cy m0 m1 m2 m3 m4 m5 m6 m7 m8 m9 m10 g184 m_tape m_typed m_place m_isFault m_readWet m_readHarvest m_read m_undone m_undos m_bestGain m_aside m_kept m_keptUndos m_isKept m_lanes m_sizes m_items m_moved) H locs → lv_has ls 11 [(0, .ref m0), (1, .int i1), (2, .int i2), (3, .int i3), (4, .int i4), (5, .int (m_now j13)), (6, .int v181), (7, .int v182), (8, .int v183)] → fX6_rain_L62 i1 i2 i3 m_now j13 n v181 v182 v183 g184 = some (q188, o189, o190) → W p l e (rmo 5 116) s m args below meth c H locs 0 0 Q (F0 m 62 ls []) := by
            intro n
            induction n with
            | zero =>
              intro v181 v182 v183 g184 H locs ls hw hl h303
              rw [fX6_rain_L62] at h303
              cases h303
            | succ n ih186 =>
              intro v181 v182 v183 g184 H locs ls hw hl h304
              rw [fX6_rain_L62] at h304
              refine lv_iload hx hb dX6_rain_62 (lv_at hl 8 rfl) ?_
              refine lv_bipush (v := 64) hx hb dX6_rain_64 (by decide) ?_
              refine lv_icmp_ge (tgt := 179) hx hb dX6_rain_66 (by decide) (fun c191 => ?_) (fun c191 => ?_)
              · rw [if_pos c191] at h304
                obtain ⟨rfl, rfl, rfl⟩ := inj3 h304
                exact kont185 _ _ _ hw (lv_sub hl [0, 4, 5, 6, 7] rfl)
              · rw [if_neg c191] at h304
                refine lv_iload hx hb dX6_rain_69 (lv_at hl 8 rfl) ?_
                refine lv_iload hx hb dX6_rain_71 (lv_at hl 5 rfl) ?_
                refine lv_iand hx hb dX6_rain_73 ?_
                obtain ⟨f230, x231, x232, h305, h306⟩ := ob3 h304
                clear h304
                have kont233 : ∀ (H : Heap) (locs : List Loc) (ls : Array Slot), Wd d A s.heap (wM cy m0 m1 m2 m3 m4 m5 m6 m7 m8 m9 m10 f230 m_tape m_typed m_place m_isFault m_readWet m_readHarvest m_read m_undone m_undos m_bestGain m_aside m_kept m_keptUndos m_isKept m_lanes m_sizes m_items m_moved) H locs → lv_has ls 11 [(0, .ref m0), (1, .int i1), (2, .int i2), (3, .int i3), (4, .int i4), (5, .int (m_now j13)), (6, .int x231), (7, .int x232), (8, .int v183)] → W p l e (rmo 5 116) s m args below meth c H locs 0 0 Q (F0 m 173 ls []) := by
                  intro H locs ls hw hl
                  clear h305
                  refine lv_iinc (v := (v183 + 1)) (lv' := [(8, .int (v183 + 1)), (0, .ref m0), (1, .int i1), (2, .int i2), (3, .int i3), (4, .int i4), (5, .int (m_now j13)), (6, .int x231), (7, .int x232)]) hx hb dX6_rain_173 hl (k := 8) rfl rfl (by decide) rfl (fun ls hl => ?_)
                  refine lv_goto (tgt := 62) hx hb dX6_rain_176 (by decide) ?_
                  exact ih186 x231 x232 (v183 + 1) f230 _ _ _ hw (lv_sub hl [1, 2, 3, 4, 5, 6, 7, 8, 0] rfl) h306
                clear h306
                refine lv_if_ne (tgt := 173) hx hb dX6_rain_74 (by decide) (fun c234 => ?_) (fun c234 => ?_)
                · rw [if_neg c234] at h305
                  obtain ⟨rfl, rfl, rfl⟩ := inj3 h305
                  exact kont233 _ _ _ hw (lv_sub hl [0, 1, 2, 3, 4, 5, 6, 7, 8] rfl)
                · rw [if_pos c234] at h305
                  refine lv_iconst (v := 1) hx hb dX6_rain_77 (by decide) ?_
                  refine lv_istore (lv' := [(9, .int 1), (0, .ref m0), (1, .int i1), (2, .int i2), (3, .int i3), (4, .int i4), (5, .int (m_now j13)), (6, .int v181), (7, .int v182), (8, .int v183)]) hx hb dX6_rain_78 hl (by decide) rfl (fun ls hl => ?_)
                  refine lv_iconst (v := 0) hx hb dX6_rain_80 (by decide) ?_
                  refine lv_istore (lv' := [(10, .int 0), (9, .int 1), (0, .ref m0), (1, .int i1), (2, .int i2), (3, .int i3), (4, .int i4), (5, .int (m_now j13)), (6, .int v181), (7, .int v182), (8, .int v183)]) hx hb dX6_rain_81 hl (by decide) rfl (fun ls hl => ?_)
                  obtain ⟨o256, h307, h308⟩ := ob1 h305
                  clear h305
                  have kont253 : ∀ (H : Heap) (locs : List Loc) (ls : Array Slot), Wd d A s.heap (wM cy m0 m1 m2 m3 m4 m5 m6 m7 m8 m9 m10 g184 m_tape m_typed m_place m_isFault m_readWet m_readHarvest m_read m_undone m_undos m_bestGain m_aside m_kept m_keptUndos m_isKept m_lanes m_sizes m_items m_moved) H locs → lv_has ls 11 [(0, .ref m0), (1, .int i1), (2, .int i2), (3, .int i3), (4, .int i4), (5, .int (m_now j13)), (6, .int v181), (7, .int v182), (8, .int v183), (9, .int o256)] → W p l e (rmo 5 116) s m args below meth c H locs 0 0 Q (F0 m 135 ls []) := by
                    intro H locs ls hw hl
                    clear h307
                    refine lv_aload_n hx hb dX6_rain_135 rfl (lv_at hl 0 rfl) ?_
                    refine g_get F inG6 hw 0 rfl rfl 0 (by decide) t_730 (fun _ h9 => h9) rfl dX6_rain_136 ?_
                    refine lv_iconst (v := 2) hx hb dX6_rain_139 (by decide) ?_
                    refine lv_iload hx hb dX6_rain_140 (lv_at hl 5 rfl) ?_
                    refine lv_iload hx hb dX6_rain_142 (lv_at hl 8 rfl) ?_
                    refine lv_ior hx hb dX6_rain_144 ?_
                    obtain ⟨j264, k265, h309⟩ := ob1 h308
                    clear h308
                    refine g_iast F hw 1 rfl k265 dX6_rain_145 (w' := wM cy m0 m1 m2 m3 m4 m5 m6 m7 m8 m9 m10 (upd g184 j264 ((m_now j13) ||| v183)) m_tape m_typed m_place m_isFault m_readWet m_readHarvest m_read m_undone m_undos m_bestGain m_aside m_kept m_keptUndos m_isKept m_lanes m_sizes m_items m_moved) rfl (fun H locs hw => ?_)
                    refine lv_iload hx hb dX6_rain_146 (lv_at hl 7 rfl) ?_
                    refine lv_iload hx hb dX6_rain_148 (lv_at hl 9 rfl) ?_
                    refine lv_iadd hx hb dX6_rain_150 ?_
                    refine lv_istore (lv' := [(7, .int (v182 + o256)), (0, .ref m0), (1, .int i1), (2, .int i2), (3, .int i3), (4, .int i4), (5, .int (m_now j13)), (6, .int v181), (8, .int v183), (9, .int o256)]) hx hb dX6_rain_151 hl (by decide) rfl (fun ls hl => ?_)
                    refine lv_iload hx hb dX6_rain_153 (lv_at hl 7 rfl) ?_
                    refine lv_aload_n hx hb dX6_rain_155 rfl (lv_at hl 1 rfl) ?_
                    refine lv_iload_n hx hb dX6_rain_156 rfl (lv_at hl 2 rfl) ?_
                    obtain ⟨r266, k267, h310⟩ := ob1 h309
                    clear h309
                    refine g_vi F (cX6_worth_ok l d cy m0 m1 m2 m3 m4 m5 m6 m7 m8 m9 m10 (upd g184 j264 ((m_now j13) ||| v183)) m_tape m_typed m_place m_isFault m_readWet m_readHarvest m_read m_undone m_undos m_bestGain m_aside m_kept m_keptUndos m_isKept m_lanes m_sizes m_items m_moved i1 r266 k267) cal_X6_worth t_838 rfl ⟨by decide, by decide⟩ hw (w' := wM cy m0 m1 m2 m3 m4 m5 m6 m7 m8 m9 m10 (upd g184 j264 ((m_now j13) ||| v183)) m_tape m_typed m_place m_isFault m_readWet m_readHarvest m_read m_undone m_undos m_bestGain m_aside m_kept m_keptUndos m_isKept m_lanes m_sizes m_items m_moved) Cut.all 0 6 rfl rfl hl.1 (Nat.le_of_ble_eq_true rfl) rfl dX6_rain_157 (fun H locs hw => ?_)
                    refine lv_iload_n hx hb dX6_rain_160 rfl (lv_at hl 3 rfl) ?_
                    obtain ⟨x269, h311, h312⟩ := ob1 h310
                    clear h310
                    have kont270 : ∀ (H : Heap) (locs : List Loc) (ls : Array Slot), Wd d A s.heap (wM cy m0 m1 m2 m3 m4 m5 m6 m7 m8 m9 m10 (upd g184 j264 ((m_now j13) ||| v183)) m_tape m_typed m_place m_isFault m_readWet m_readHarvest m_read m_undone m_undos m_bestGain m_aside m_kept m_keptUndos m_isKept m_lanes m_sizes m_items m_moved) H locs → lv_has ls 11 [(0, .ref m0), (1, .int i1), (2, .int i2), (3, .int i3), (4, .int i4), (5, .int (m_now j13)), (7, .int (v182 + o256)), (8, .int v183)] → W p l e (rmo 5 116) s m args below meth c H locs 0 0 Q (F0 m 170 ls [.int x269, .int v181]) := by
                      intro H locs ls hw hl
                      clear h311
                      refine lv_iadd hx hb dX6_rain_170 ?_
                      refine lv_istore (lv' := [(6, .int (v181 + x269)), (0, .ref m0), (1, .int i1), (2, .int i2), (3, .int i3), (4, .int i4), (5, .int (m_now j13)), (7, .int (v182 + o256)), (8, .int v183)]) hx hb dX6_rain_171 hl (by decide) rfl (fun ls hl => ?_)
                      obtain ⟨rfl, rfl, rfl⟩ := inj3 h312
                      exact kont233 _ _ _ hw (lv_sub hl [1, 2, 3, 4, 5, 6, 0, 7, 8] rfl)
                    clear h312
                    refine lv_icmp_lt (tgt := 169) hx hb dX6_rain_161 (by decide) (fun c271 => ?_) (fun c271 => ?_)
                    · rw [if_pos c271] at h311
                      refine lv_iconst (v := 0) hx hb dX6_rain_169 (by decide) ?_
                      obtain rfl := inj1 h311
                      exact kont270 _ _ _ hw (lv_sub hl [1, 2, 3, 4, 5, 6, 0, 8] rfl)
                    · rw [if_neg c271] at h311
                      refine lv_iload hx hb dX6_rain_164 (lv_at hl 9 rfl) ?_
                      refine lv_goto (tgt := 170) hx hb dX6_rain_166 (by decide) ?_
                      obtain rfl := inj1 h311
                      exact kont270 _ _ _ hw (lv_sub hl [1, 2, 3, 4, 5, 6, 0, 8] rfl)
                  clear h308
                  have loop255 : ∀ (n : Nat) (v251 : Int32) (v252 : Int32) (H : Heap) (locs : List Loc) (ls : Array Slot), Wd d A s.heap (wM cy m0 m1 m2 m3 m4 m5 m6 m7 m8 m9 m10 g184 m_tape m_typed m_place m_isFault m_readWet m_readHarvest m_read m_undone m_undos m_bestGain m_aside m_kept m_keptUndos m_isKept m_lanes m_sizes m_items m_moved) H locs → lv_has ls 11 [(0, .ref m0), (1, .int i1), (2, .int i2), (3, .int i3), (4, .int i4), (5, .int (m_now j13)), (6, .int v181), (7, .int v182), (8, .int v183), (9, .int v252), (10, .int v251)] → fX6_rain_L83 i3 m_now j13 v183 n v251 v252 = some (o256) → W p l e (rmo 5 116) s m args below meth c H locs 0 0 Q (F0 m 83 ls []) := by
                    intro n
                    induction n with
                    | zero =>
                      intro v251 v252 H locs ls hw hl h313
                      rw [fX6_rain_L83] at h313
                      cases h313
                    | succ n ih254 =>
                      intro v251 v252 H locs ls hw hl h314
                      rw [fX6_rain_L83] at h314
                      refine lv_iload hx hb dX6_rain_83 (lv_at hl 10 rfl) ?_
                      refine lv_bipush (v := 6) hx hb dX6_rain_85 (by decide) ?_
                      refine lv_icmp_ge (tgt := 135) hx hb dX6_rain_87 (by decide) (fun c257 => ?_) (fun c257 => ?_)
                      · rw [if_pos c257] at h314
                        obtain rfl := inj1 h314
                        exact kont253 _ _ _ hw (lv_sub hl [0, 1, 2, 3, 4, 5, 6, 7, 8, 9] rfl)
                      · rw [if_neg c257] at h314
                        refine lv_iload hx hb dX6_rain_90 (lv_at hl 9 rfl) ?_
                        refine lv_iload hx hb dX6_rain_92 (lv_at hl 5 rfl) ?_
                        refine lv_iload hx hb dX6_rain_94 (lv_at hl 10 rfl) ?_
                        refine lv_ishr hx hb dX6_rain_96 ?_
                        refine lv_iconst (v := 1) hx hb dX6_rain_97 (by decide) ?_
                        refine lv_iand hx hb dX6_rain_98 ?_
                        refine lv_iconst (v := 1) hx hb dX6_rain_99 (by decide) ?_
                        obtain ⟨x260, h315, h316⟩ := ob1 h314
                        clear h314
                        have kont261 : ∀ (H : Heap) (locs : List Loc) (ls : Array Slot), Wd d A s.heap (wM cy m0 m1 m2 m3 m4 m5 m6 m7 m8 m9 m10 g184 m_tape m_typed m_place m_isFault m_readWet m_readHarvest m_read m_undone m_undos m_bestGain m_aside m_kept m_keptUndos m_isKept m_lanes m_sizes m_items m_moved) H locs → lv_has ls 11 [(0, .ref m0), (1, .int i1), (2, .int i2), (3, .int i3), (4, .int i4), (5, .int (m_now j13)), (6, .int v181), (7, .int v182), (8, .int v183), (10, .int v251)] → W p l e (rmo 5 116) s m args below meth c H locs 0 0 Q (F0 m 126 ls [.int x260, .int v252]) := by
                          intro H locs ls hw hl
                          clear h315
                          refine lv_imul hx hb dX6_rain_126 ?_
                          refine lv_istore (lv' := [(9, .int (v252 * x260)), (0, .ref m0), (1, .int i1), (2, .int i2), (3, .int i3), (4, .int i4), (5, .int (m_now j13)), (6, .int v181), (7, .int v182), (8, .int v183), (10, .int v251)]) hx hb dX6_rain_127 hl (by decide) rfl (fun ls hl => ?_)
                          refine lv_iinc (v := (v251 + 1)) (lv' := [(10, .int (v251 + 1)), (9, .int (v252 * x260)), (0, .ref m0), (1, .int i1), (2, .int i2), (3, .int i3), (4, .int i4), (5, .int (m_now j13)), (6, .int v181), (7, .int v182), (8, .int v183)]) hx hb dX6_rain_129 hl (k := 10) rfl rfl (by decide) rfl (fun ls hl => ?_)
                          refine lv_goto (tgt := 83) hx hb dX6_rain_132 (by decide) ?_
                          exact ih254 (v251 + 1) (v252 * x260) _ _ _ hw (lv_sub hl [2, 3, 4, 5, 6, 7, 8, 9, 10, 1, 0] rfl) h316
                        clear h316
                        refine lv_icmp_ne (tgt := 107) hx hb dX6_rain_100 (by decide) (fun c262 => ?_) (fun c262 => ?_)
                        · rw [if_neg c262] at h315
                          refine lv_iload hx hb dX6_rain_107 (lv_at hl 8 rfl) ?_
                          refine lv_iload hx hb dX6_rain_109 (lv_at hl 10 rfl) ?_
                          refine lv_ishr hx hb dX6_rain_111 ?_
                          refine lv_iconst (v := 1) hx hb dX6_rain_112 (by decide) ?_
                          refine lv_iand hx hb dX6_rain_113 ?_
                          refine lv_iconst (v := 1) hx hb dX6_rain_114 (by decide) ?_
                          refine lv_icmp_ne (tgt := 122) hx hb dX6_rain_115 (by decide) (fun c263 => ?_) (fun c263 => ?_)
                          · rw [if_neg c263] at h315
                            refine lv_bipush (v := 10) hx hb dX6_rain_122 (by decide) ?_
                            refine lv_iload_n hx hb dX6_rain_124 rfl (lv_at hl 3 rfl) ?_
                            refine lv_isub hx hb dX6_rain_125 ?_
                            obtain rfl := inj1 h315
                            exact kont261 _ _ _ hw (lv_sub hl [0, 1, 2, 3, 4, 5, 6, 7, 8, 10] rfl)
                          · rw [if_pos c263] at h315
                            refine lv_iload_n hx hb dX6_rain_118 rfl (lv_at hl 3 rfl) ?_
                            refine lv_goto (tgt := 126) hx hb dX6_rain_119 (by decide) ?_
                            obtain rfl := inj1 h315
                            exact kont261 _ _ _ hw (lv_sub hl [0, 1, 2, 3, 4, 5, 6, 7, 8, 10] rfl)
                        · rw [if_pos c262] at h315
                          refine lv_iconst (v := 1) hx hb dX6_rain_103 (by decide) ?_
                          refine lv_goto (tgt := 126) hx hb dX6_rain_104 (by decide) ?_
                          obtain rfl := inj1 h315
                          exact kont261 _ _ _ hw (lv_sub hl [0, 1, 2, 3, 4, 5, 6, 7, 8, 10] rfl)
                  exact loop255 fl 0 1 _ _ _ hw (lv_sub hl [2, 3, 4, 5, 6, 7, 8, 9, 10, 1, 0] rfl) h307
          exact loop187 fl 0 0 0 m_now _ _ _ hw (lv_sub hl [4, 5, 6, 7, 8, 3, 2, 1, 0] rfl) h294
        · rw [if_pos c12] at h292
          refine lv_iconst (v := (-1)) hx hb dX6_rain_43 (by decide) ?_
          obtain ⟨rfl, rfl⟩ := inj2 h292
          exact hret _ _ _ _ hw dX6_rain_44
theorem cal_X6_image : CalV yX6_image cX6_image 2 (some .int) RX6 0 := ⟨t_1049, t_1047, t_1048, t_43, by decide +kernel⟩
set_option maxHeartbeats 4000000 in
set_option maxRecDepth 100000 in
theorem cX6_image_ok (l : Launch) (d : va_G) (cy : Nat → ClassId) (m0 m1 m2 m3 m4 m5 m6 m7 m8 m9 m10 : Nat) (m_now : Nat → Int32) (m_tape : Nat → Int32) (m_typed : Int32) (m_place : Int32) (m_isFault : Int32) (m_readWet : Int32) (m_readHarvest : Int32) (m_read : Nat → Int32) (m_undone : Nat → Int32) (m_undos : Int32) (m_bestGain : Int32) (m_aside : Nat → Int32) (m_kept : Nat → Int32) (m_keptUndos : Int32) (m_isKept : Int32) (m_lanes : Nat → Int32) (m_sizes : Nat → Int32) (m_items : Nat → Int64) (m_moved : Nat → Int64) (r : Int32) (m_kept_r : Nat → Int32) (m_keptUndos_r : Int32) (m_isKept_r : Int32) (h0 : fX6_image m_now m_undone m_undos m_kept = some (r, m_kept_r, m_keptUndos_r, m_isKept_r)) : CI l yX6_image cX6_image 2 (some .int) 0 0 d cy [.ref m0] (wM cy m0 m1 m2 m3 m4 m5 m6 m7 m8 m9 m10 m_now m_tape m_typed m_place m_isFault m_readWet m_readHarvest m_read m_undone m_undos m_bestGain m_aside m_kept m_keptUndos m_isKept m_lanes m_sizes m_items m_moved) (wM cy m0 m1 m2 m3 m4 m5 m6 m7 m8 m9 m10 m_now m_tape m_typed m_place m_isFault m_readWet m_readHarvest m_read m_undone m_undos m_bestGain m_aside m_kept_r m_keptUndos_r m_isKept_r m_lanes m_sizes m_items m_moved) r := by
  refine CI.of (by decide) (Nat.le_of_ble_eq_true rfl) ?_
  intro p e s m args below meth c A ls Q F hret hw hl
  have hx := F.1
  have hb := F.2.1
  have hl : lv_has ls 2 [(0, .ref m0)] := hl
  rw [fX6_image] at h0
  refine lv_iconst (v := 0) hx hb dX6_image_0 (by decide) ?_
  refine lv_istore_n (lv' := [(1, .int 0), (0, .ref m0)]) hx hb dX6_image_1 rfl hl (by decide) rfl (fun ls hl => ?_)
  obtain ⟨q18, h47, h48⟩ := ob1 h0
  clear h0
  have kont15 : ∀ (H : Heap) (locs : List Loc) (ls : Array Slot), Wd d A s.heap (wM cy m0 m1 m2 m3 m4 m5 m6 m7 m8 m9 m10 m_now m_tape m_typed m_place m_isFault m_readWet m_readHarvest m_read m_undone m_undos m_bestGain m_aside q18 m_keptUndos m_isKept m_lanes m_sizes m_items m_moved) H locs → lv_has ls 2 [(0, .ref m0)] → W p l e (rmo 0 0) s m args below meth c H locs 0 0 Q (F0 m 26 ls []) := by
    intro H locs ls hw hl
    clear h47
    refine lv_iconst (v := 0) hx hb dX6_image_26 (by decide) ?_
    refine lv_istore_n (lv' := [(1, .int 0), (0, .ref m0)]) hx hb dX6_image_27 rfl hl (by decide) rfl (fun ls hl => ?_)
    obtain ⟨q41, h49, h50⟩ := ob1 h48
    clear h48
    have kont38 : ∀ (H : Heap) (locs : List Loc) (ls : Array Slot), Wd d A s.heap (wM cy m0 m1 m2 m3 m4 m5 m6 m7 m8 m9 m10 m_now m_tape m_typed m_place m_isFault m_readWet m_readHarvest m_read m_undone m_undos m_bestGain m_aside q41 m_keptUndos m_isKept m_lanes m_sizes m_items m_moved) H locs → lv_has ls 2 [(0, .ref m0)] → W p l e (rmo 0 0) s m args below meth c H locs 0 0 Q (F0 m 56 ls []) := by
      intro H locs ls hw hl
      clear h49
      refine lv_aload_n hx hb dX6_image_56 rfl (lv_at hl 0 rfl) ?_
      refine lv_aload_n hx hb dX6_image_57 rfl (lv_at hl 0 rfl) ?_
      refine g_get F inG6 hw 0 rfl rfl 9 (by decide) t_739 (fun _ h9 => h9) rfl dX6_image_58 ?_
      refine g_put F inG6 tyX6 tyX6_ok nmX6 hw 0 rfl rfl 13 (by decide) t_743 (fun _ h9 => h9) rfl (ty := .int) (by decide +kernel) rfl rfl (Nat.le_of_ble_eq_true rfl) dX6_image_61 (w' := wM cy m0 m1 m2 m3 m4 m5 m6 m7 m8 m9 m10 m_now m_tape m_typed m_place m_isFault m_readWet m_readHarvest m_read m_undone m_undos m_bestGain m_aside q41 m_undos m_isKept m_lanes m_sizes m_items m_moved) rfl (fun H locs hw => ?_)
      refine lv_aload_n hx hb dX6_image_64 rfl (lv_at hl 0 rfl) ?_
      refine lv_iconst (v := 1) hx hb dX6_image_65 (by decide) ?_
      refine g_put F inG6 tyX6 tyX6_ok nmX6 hw 0 rfl rfl 14 (by decide) t_744 (fun _ h9 => h9) rfl (ty := .boolean) (by decide +kernel) rfl rfl (Nat.le_of_ble_eq_true rfl) dX6_image_66 (w' := wM cy m0 m1 m2 m3 m4 m5 m6 m7 m8 m9 m10 m_now m_tape m_typed m_place m_isFault m_readWet m_readHarvest m_read m_undone m_undos m_bestGain m_aside q41 m_undos 1 m_lanes m_sizes m_items m_moved) rfl (fun H locs hw => ?_)
      refine lv_iconst (v := 1) hx hb dX6_image_69 (by decide) ?_
      obtain ⟨rfl, rfl, rfl, rfl⟩ := inj4 h50
      exact hret _ _ _ _ hw dX6_image_70
    clear h50
    have loop40 : ∀ (n : Nat) (v36 : Int32) (g37 : Nat → Int32) (H : Heap) (locs : List Loc) (ls : Array Slot), Wd d A s.heap (wM cy m0 m1 m2 m3 m4 m5 m6 m7 m8 m9 m10 m_now m_tape m_typed m_place m_isFault m_readWet m_readHarvest m_read m_undone m_undos m_bestGain m_aside g37 m_keptUndos m_isKept m_lanes m_sizes m_items m_moved) H locs → lv_has ls 2 [(0, .ref m0), (1, .int v36)] → fX6_image_L28 m_undone n v36 g37 = some (q41) → W p l e (rmo 0 0) s m args below meth c H locs 0 0 Q (F0 m 28 ls []) := by
      intro n
      induction n with
      | zero =>
        intro v36 g37 H locs ls hw hl h51
        rw [fX6_image_L28] at h51
        cases h51
      | succ n ih39 =>
        intro v36 g37 H locs ls hw hl h52
        rw [fX6_image_L28] at h52
        refine lv_iload_n hx hb dX6_image_28 rfl (lv_at hl 1 rfl) ?_
        refine lv_sipush (v := 648) hx hb dX6_image_29 (by decide) ?_
        refine lv_icmp_ge (tgt := 56) hx hb dX6_image_32 (by decide) (fun c42 => ?_) (fun c42 => ?_)
        · rw [if_pos c42] at h52
          obtain rfl := inj1 h52
          exact kont38 _ _ _ hw (lv_sub hl [0] rfl)
        · rw [if_neg c42] at h52
          refine lv_aload_n hx hb dX6_image_35 rfl (lv_at hl 0 rfl) ?_
          refine g_get F inG6 hw 0 rfl rfl 12 (by decide) t_742 (fun _ h9 => h9) rfl dX6_image_36 ?_
          refine lv_bipush (v := 95) hx hb dX6_image_39 (by decide) ?_
          refine lv_iload_n hx hb dX6_image_41 rfl (lv_at hl 1 rfl) ?_
          refine lv_iadd hx hb dX6_image_42 ?_
          refine lv_aload_n hx hb dX6_image_43 rfl (lv_at hl 0 rfl) ?_
          refine g_get F inG6 hw 0 rfl rfl 8 (by decide) t_738 (fun _ h9 => h9) rfl dX6_image_44 ?_
          refine lv_iload_n hx hb dX6_image_47 rfl (lv_at hl 1 rfl) ?_
          obtain ⟨j43, k44, h53⟩ := ob1 h52
          clear h52
          refine g_iald F hw 4 rfl k44 dX6_image_48 ?_
          obtain ⟨j45, k46, h54⟩ := ob1 h53
          clear h53
          refine g_iast F hw 6 rfl k46 dX6_image_49 (w' := wM cy m0 m1 m2 m3 m4 m5 m6 m7 m8 m9 m10 m_now m_tape m_typed m_place m_isFault m_readWet m_readHarvest m_read m_undone m_undos m_bestGain m_aside (upd g37 j45 (m_undone j43)) m_keptUndos m_isKept m_lanes m_sizes m_items m_moved) rfl (fun H locs hw => ?_)
          refine lv_iinc (v := (v36 + 1)) (lv' := [(1, .int (v36 + 1)), (0, .ref m0)]) hx hb dX6_image_50 hl (k := 1) rfl rfl (by decide) rfl (fun ls hl => ?_)
          refine lv_goto (tgt := 28) hx hb dX6_image_53 (by decide) ?_
          exact ih39 (v36 + 1) (upd g37 j45 (m_undone j43)) _ _ _ hw (lv_sub hl [1, 0] rfl) h54
    exact loop40 fl 0 q18 _ _ _ hw (lv_sub hl [1, 0] rfl) h49
  clear h48
  have loop17 : ∀ (n : Nat) (v13 : Int32) (g14 : Nat → Int32) (H : Heap) (locs : List Loc) (ls : Array Slot), Wd d A s.heap (wM cy m0 m1 m2 m3 m4 m5 m6 m7 m8 m9 m10 m_now m_tape m_typed m_place m_isFault m_readWet m_readHarvest m_read m_undone m_undos m_bestGain m_aside g14 m_keptUndos m_isKept m_lanes m_sizes m_items m_moved) H locs → lv_has ls 2 [(0, .ref m0), (1, .int v13)] → fX6_image_L2 m_now n v13 g14 = some (q18) → W p l e (rmo 0 0) s m args below meth c H locs 0 0 Q (F0 m 2 ls []) := by
    intro n
    induction n with
    | zero =>
      intro v13 g14 H locs ls hw hl h55
      rw [fX6_image_L2] at h55
      cases h55
    | succ n ih16 =>
      intro v13 g14 H locs ls hw hl h56
      rw [fX6_image_L2] at h56
      refine lv_iload_n hx hb dX6_image_2 rfl (lv_at hl 1 rfl) ?_
      refine lv_bipush (v := 95) hx hb dX6_image_3 (by decide) ?_
      refine lv_icmp_ge (tgt := 26) hx hb dX6_image_5 (by decide) (fun c19 => ?_) (fun c19 => ?_)
      · rw [if_pos c19] at h56
        obtain rfl := inj1 h56
        exact kont15 _ _ _ hw (lv_sub hl [0] rfl)
      · rw [if_neg c19] at h56
        refine lv_aload_n hx hb dX6_image_8 rfl (lv_at hl 0 rfl) ?_
        refine g_get F inG6 hw 0 rfl rfl 12 (by decide) t_742 (fun _ h9 => h9) rfl dX6_image_9 ?_
        refine lv_iload_n hx hb dX6_image_12 rfl (lv_at hl 1 rfl) ?_
        refine lv_aload_n hx hb dX6_image_13 rfl (lv_at hl 0 rfl) ?_
        refine g_get F inG6 hw 0 rfl rfl 0 (by decide) t_730 (fun _ h9 => h9) rfl dX6_image_14 ?_
        refine lv_iload_n hx hb dX6_image_17 rfl (lv_at hl 1 rfl) ?_
        obtain ⟨j20, k21, h57⟩ := ob1 h56
        clear h56
        refine g_iald F hw 1 rfl k21 dX6_image_18 ?_
        obtain ⟨j22, k23, h58⟩ := ob1 h57
        clear h57
        refine g_iast F hw 6 rfl k23 dX6_image_19 (w' := wM cy m0 m1 m2 m3 m4 m5 m6 m7 m8 m9 m10 m_now m_tape m_typed m_place m_isFault m_readWet m_readHarvest m_read m_undone m_undos m_bestGain m_aside (upd g14 j22 (m_now j20)) m_keptUndos m_isKept m_lanes m_sizes m_items m_moved) rfl (fun H locs hw => ?_)
        refine lv_iinc (v := (v13 + 1)) (lv' := [(1, .int (v13 + 1)), (0, .ref m0)]) hx hb dX6_image_20 hl (k := 1) rfl rfl (by decide) rfl (fun ls hl => ?_)
        refine lv_goto (tgt := 2) hx hb dX6_image_23 (by decide) ?_
        exact ih16 (v13 + 1) (upd g14 j22 (m_now j20)) _ _ _ hw (lv_sub hl [1, 0] rfl) h58
  exact loop17 fl 0 m_kept _ _ _ hw (lv_sub hl [1, 0] rfl) h47
theorem cal_X6_restore : CalV yX6_restore cX6_restore 2 (some .int) RX6 0 := ⟨t_1053, t_1051, t_1052, t_43, by decide +kernel⟩
set_option maxHeartbeats 4000000 in
set_option maxRecDepth 100000 in
theorem cX6_restore_ok (l : Launch) (d : va_G) (cy : Nat → ClassId) (m0 m1 m2 m3 m4 m5 m6 m7 m8 m9 m10 : Nat) (m_now : Nat → Int32) (m_tape : Nat → Int32) (m_typed : Int32) (m_place : Int32) (m_isFault : Int32) (m_readWet : Int32) (m_readHarvest : Int32) (m_read : Nat → Int32) (m_undone : Nat → Int32) (m_undos : Int32) (m_bestGain : Int32) (m_aside : Nat → Int32) (m_kept : Nat → Int32) (m_keptUndos : Int32) (m_isKept : Int32) (m_lanes : Nat → Int32) (m_sizes : Nat → Int32) (m_items : Nat → Int64) (m_moved : Nat → Int64) (r : Int32) (m_now_r : Nat → Int32) (m_undone_r : Nat → Int32) (m_undos_r : Int32) (h0 : fX6_restore m_now m_undone m_undos m_kept m_keptUndos m_isKept = some (r, m_now_r, m_undone_r, m_undos_r)) : CI l yX6_restore cX6_restore 2 (some .int) 0 0 d cy [.ref m0] (wM cy m0 m1 m2 m3 m4 m5 m6 m7 m8 m9 m10 m_now m_tape m_typed m_place m_isFault m_readWet m_readHarvest m_read m_undone m_undos m_bestGain m_aside m_kept m_keptUndos m_isKept m_lanes m_sizes m_items m_moved) (wM cy m0 m1 m2 m3 m4 m5 m6 m7 m8 m9 m10 m_now_r m_tape m_typed m_place m_isFault m_readWet m_readHarvest m_read m_undone_r m_undos_r m_bestGain m_aside m_kept m_keptUndos m_isKept m_lanes m_sizes m_items m_moved) r := by
  refine CI.of (by decide) (Nat.le_of_ble_eq_true rfl) ?_
  intro p e s m args below meth c A ls Q F hret hw hl
  have hx := F.1
  have hb := F.2.1
  have hl : lv_has ls 2 [(0, .ref m0)] := hl
  rw [fX6_restore] at h0
  refine lv_aload_n hx hb dX6_restore_0 rfl (lv_at hl 0 rfl) ?_
  refine g_get F inG6 hw 0 rfl rfl 14 (by decide) t_744 (fun _ h9 => h9) rfl dX6_restore_1 ?_
  refine lv_if_ne (tgt := 10) hx hb dX6_restore_4 (by decide) (fun c1 => ?_) (fun c1 => ?_)
  · rw [if_neg c1] at h0
    refine lv_iconst (v := 0) hx hb dX6_restore_10 (by decide) ?_
    refine lv_istore_n (lv' := [(1, .int 0), (0, .ref m0)]) hx hb dX6_restore_11 rfl hl (by decide) rfl (fun ls hl => ?_)
    obtain ⟨q19, h48, h49⟩ := ob1 h0
    clear h0
    have kont16 : ∀ (H : Heap) (locs : List Loc) (ls : Array Slot), Wd d A s.heap (wM cy m0 m1 m2 m3 m4 m5 m6 m7 m8 m9 m10 q19 m_tape m_typed m_place m_isFault m_readWet m_readHarvest m_read m_undone m_undos m_bestGain m_aside m_kept m_keptUndos m_isKept m_lanes m_sizes m_items m_moved) H locs → lv_has ls 2 [(0, .ref m0)] → W p l e (rmo 0 0) s m args below meth c H locs 0 0 Q (F0 m 36 ls []) := by
      intro H locs ls hw hl
      clear h48
      refine lv_iconst (v := 0) hx hb dX6_restore_36 (by decide) ?_
      refine lv_istore_n (lv' := [(1, .int 0), (0, .ref m0)]) hx hb dX6_restore_37 rfl hl (by decide) rfl (fun ls hl => ?_)
      obtain ⟨q42, h50, h51⟩ := ob1 h49
      clear h49
      have kont39 : ∀ (H : Heap) (locs : List Loc) (ls : Array Slot), Wd d A s.heap (wM cy m0 m1 m2 m3 m4 m5 m6 m7 m8 m9 m10 q19 m_tape m_typed m_place m_isFault m_readWet m_readHarvest m_read q42 m_undos m_bestGain m_aside m_kept m_keptUndos m_isKept m_lanes m_sizes m_items m_moved) H locs → lv_has ls 2 [(0, .ref m0)] → W p l e (rmo 0 0) s m args below meth c H locs 0 0 Q (F0 m 66 ls []) := by
        intro H locs ls hw hl
        clear h50
        refine lv_aload_n hx hb dX6_restore_66 rfl (lv_at hl 0 rfl) ?_
        refine lv_aload_n hx hb dX6_restore_67 rfl (lv_at hl 0 rfl) ?_
        refine g_get F inG6 hw 0 rfl rfl 13 (by decide) t_743 (fun _ h9 => h9) rfl dX6_restore_68 ?_
        refine g_put F inG6 tyX6 tyX6_ok nmX6 hw 0 rfl rfl 9 (by decide) t_739 (fun _ h9 => h9) rfl (ty := .int) (by decide +kernel) rfl rfl (Nat.le_of_ble_eq_true rfl) dX6_restore_71 (w' := wM cy m0 m1 m2 m3 m4 m5 m6 m7 m8 m9 m10 q19 m_tape m_typed m_place m_isFault m_readWet m_readHarvest m_read q42 m_keptUndos m_bestGain m_aside m_kept m_keptUndos m_isKept m_lanes m_sizes m_items m_moved) rfl (fun H locs hw => ?_)
        refine lv_iconst (v := 1) hx hb dX6_restore_74 (by decide) ?_
        obtain ⟨rfl, rfl, rfl, rfl⟩ := inj4 h51
        exact hret _ _ _ _ hw dX6_restore_75
      clear h51
      have loop41 : ∀ (n : Nat) (v37 : Int32) (g38 : Nat → Int32) (H : Heap) (locs : List Loc) (ls : Array Slot), Wd d A s.heap (wM cy m0 m1 m2 m3 m4 m5 m6 m7 m8 m9 m10 q19 m_tape m_typed m_place m_isFault m_readWet m_readHarvest m_read g38 m_undos m_bestGain m_aside m_kept m_keptUndos m_isKept m_lanes m_sizes m_items m_moved) H locs → lv_has ls 2 [(0, .ref m0), (1, .int v37)] → fX6_restore_L38 m_kept n v37 g38 = some (q42) → W p l e (rmo 0 0) s m args below meth c H locs 0 0 Q (F0 m 38 ls []) := by
        intro n
        induction n with
        | zero =>
          intro v37 g38 H locs ls hw hl h52
          rw [fX6_restore_L38] at h52
          cases h52
        | succ n ih40 =>
          intro v37 g38 H locs ls hw hl h53
          rw [fX6_restore_L38] at h53
          refine lv_iload_n hx hb dX6_restore_38 rfl (lv_at hl 1 rfl) ?_
          refine lv_sipush (v := 648) hx hb dX6_restore_39 (by decide) ?_
          refine lv_icmp_ge (tgt := 66) hx hb dX6_restore_42 (by decide) (fun c43 => ?_) (fun c43 => ?_)
          · rw [if_pos c43] at h53
            obtain rfl := inj1 h53
            exact kont39 _ _ _ hw (lv_sub hl [0] rfl)
          · rw [if_neg c43] at h53
            refine lv_aload_n hx hb dX6_restore_45 rfl (lv_at hl 0 rfl) ?_
            refine g_get F inG6 hw 0 rfl rfl 8 (by decide) t_738 (fun _ h9 => h9) rfl dX6_restore_46 ?_
            refine lv_iload_n hx hb dX6_restore_49 rfl (lv_at hl 1 rfl) ?_
            refine lv_aload_n hx hb dX6_restore_50 rfl (lv_at hl 0 rfl) ?_
            refine g_get F inG6 hw 0 rfl rfl 12 (by decide) t_742 (fun _ h9 => h9) rfl dX6_restore_51 ?_
            refine lv_bipush (v := 95) hx hb dX6_restore_54 (by decide) ?_
            refine lv_iload_n hx hb dX6_restore_56 rfl (lv_at hl 1 rfl) ?_
            refine lv_iadd hx hb dX6_restore_57 ?_
            obtain ⟨j44, k45, h54⟩ := ob1 h53
            clear h53
            refine g_iald F hw 6 rfl k45 dX6_restore_58 ?_
            obtain ⟨j46, k47, h55⟩ := ob1 h54
            clear h54
            refine g_iast F hw 4 rfl k47 dX6_restore_59 (w' := wM cy m0 m1 m2 m3 m4 m5 m6 m7 m8 m9 m10 q19 m_tape m_typed m_place m_isFault m_readWet m_readHarvest m_read (upd g38 j46 (m_kept j44)) m_undos m_bestGain m_aside m_kept m_keptUndos m_isKept m_lanes m_sizes m_items m_moved) rfl (fun H locs hw => ?_)
            refine lv_iinc (v := (v37 + 1)) (lv' := [(1, .int (v37 + 1)), (0, .ref m0)]) hx hb dX6_restore_60 hl (k := 1) rfl rfl (by decide) rfl (fun ls hl => ?_)
            refine lv_goto (tgt := 38) hx hb dX6_restore_63 (by decide) ?_
            exact ih40 (v37 + 1) (upd g38 j46 (m_kept j44)) _ _ _ hw (lv_sub hl [1, 0] rfl) h55
      exact loop41 fl 0 m_undone _ _ _ hw (lv_sub hl [1, 0] rfl) h50
    clear h49
    have loop18 : ∀ (n : Nat) (v14 : Int32) (g15 : Nat → Int32) (H : Heap) (locs : List Loc) (ls : Array Slot), Wd d A s.heap (wM cy m0 m1 m2 m3 m4 m5 m6 m7 m8 m9 m10 g15 m_tape m_typed m_place m_isFault m_readWet m_readHarvest m_read m_undone m_undos m_bestGain m_aside m_kept m_keptUndos m_isKept m_lanes m_sizes m_items m_moved) H locs → lv_has ls 2 [(0, .ref m0), (1, .int v14)] → fX6_restore_L12 m_kept n v14 g15 = some (q19) → W p l e (rmo 0 0) s m args below meth c H locs 0 0 Q (F0 m 12 ls []) := by
      intro n
      induction n with
      | zero =>
        intro v14 g15 H locs ls hw hl h56
        rw [fX6_restore_L12] at h56
        cases h56
      | succ n ih17 =>
        intro v14 g15 H locs ls hw hl h57
        rw [fX6_restore_L12] at h57
        refine lv_iload_n hx hb dX6_restore_12 rfl (lv_at hl 1 rfl) ?_
        refine lv_bipush (v := 95) hx hb dX6_restore_13 (by decide) ?_
        refine lv_icmp_ge (tgt := 36) hx hb dX6_restore_15 (by decide) (fun c20 => ?_) (fun c20 => ?_)
        · rw [if_pos c20] at h57
          obtain rfl := inj1 h57
          exact kont16 _ _ _ hw (lv_sub hl [0] rfl)
        · rw [if_neg c20] at h57
          refine lv_aload_n hx hb dX6_restore_18 rfl (lv_at hl 0 rfl) ?_
          refine g_get F inG6 hw 0 rfl rfl 0 (by decide) t_730 (fun _ h9 => h9) rfl dX6_restore_19 ?_
          refine lv_iload_n hx hb dX6_restore_22 rfl (lv_at hl 1 rfl) ?_
          refine lv_aload_n hx hb dX6_restore_23 rfl (lv_at hl 0 rfl) ?_
          refine g_get F inG6 hw 0 rfl rfl 12 (by decide) t_742 (fun _ h9 => h9) rfl dX6_restore_24 ?_
          refine lv_iload_n hx hb dX6_restore_27 rfl (lv_at hl 1 rfl) ?_
          obtain ⟨j21, k22, h58⟩ := ob1 h57
          clear h57
          refine g_iald F hw 6 rfl k22 dX6_restore_28 ?_
          obtain ⟨j23, k24, h59⟩ := ob1 h58
          clear h58
          refine g_iast F hw 1 rfl k24 dX6_restore_29 (w' := wM cy m0 m1 m2 m3 m4 m5 m6 m7 m8 m9 m10 (upd g15 j23 (m_kept j21)) m_tape m_typed m_place m_isFault m_readWet m_readHarvest m_read m_undone m_undos m_bestGain m_aside m_kept m_keptUndos m_isKept m_lanes m_sizes m_items m_moved) rfl (fun H locs hw => ?_)
          refine lv_iinc (v := (v14 + 1)) (lv' := [(1, .int (v14 + 1)), (0, .ref m0)]) hx hb dX6_restore_30 hl (k := 1) rfl rfl (by decide) rfl (fun ls hl => ?_)
          refine lv_goto (tgt := 12) hx hb dX6_restore_33 (by decide) ?_
          exact ih17 (v14 + 1) (upd g15 j23 (m_kept j21)) _ _ _ hw (lv_sub hl [1, 0] rfl) h59
    exact loop18 fl 0 m_now _ _ _ hw (lv_sub hl [1, 0] rfl) h48
  · rw [if_pos c1] at h0
    refine lv_bipush (v := (-4)) hx hb dX6_restore_7 (by decide) ?_
    obtain ⟨rfl, rfl, rfl, rfl⟩ := inj4 h0
    exact hret _ _ _ _ hw dX6_restore_9
theorem cal_X6_isSheet : CalS yX6_isSheet cX6_isSheet 1 (some .boolean) 1 := ⟨t_1060, t_1059, t_43, by decide +kernel⟩
set_option maxHeartbeats 4000000 in
set_option maxRecDepth 100000 in
theorem cX6_isSheet_ok (l : Launch) (d : va_G) (cy : Nat → ClassId) (i0 : Int32) (r : Int32) (h0 : fX6_isSheet i0 = some (r)) : CI l yX6_isSheet cX6_isSheet 1 (some .boolean) 1 25 d cy [.int i0] ([]) ([]) r := by
  refine CZ.of (by decide) (Nat.le_of_ble_eq_true rfl) ?_
  intro p e s m args below meth c A ls Q F hret hw hl
  have hx := F.1
  have hb := F.2.1
  have hl : lv_has ls 1 [(0, .int i0)] := hl
  rw [fX6_isSheet] at h0
  refine lv_iload_n hx hb dX6_isSheet_0 rfl (lv_at hl 0 rfl) ?_
  refine lv_i2l hx hb dX6_isSheet_1 rfl ?_
  refine lv_lconst (v := 0) hx hb dX6_isSheet_2 (by decide) ?_
  refine lv_ldc2 (v := 3) hx hb F.2.2.2.2.2.1 (F.2.2.2.2.2.2.1 _ t_1061) dX6_isSheet_3 ?_
  obtain ⟨r1, k2, h4⟩ := ob1 h0
  clear h0
  refine g_si F (cX6_in_ok l d cy (Int32.toInt64 i0) 0 3 r1 k2) cal_X6_in t_793 rfl ⟨by decide, by decide⟩ hw (w' := []) Cut.nil hl.1 (Nat.le_of_ble_eq_true rfl) rfl dX6_isSheet_6 (fun H locs hw => ?_)
  obtain ⟨k3, h5⟩ := ob0 h4
  clear h4
  obtain rfl := inj1 h5
  exact hret _ _ _ _ (isb_nar k3) hw dX6_isSheet_9
theorem cal_X6_isLane : CalS yX6_isLane cX6_isLane 1 (some .boolean) 1 := ⟨t_1064, t_1063, t_43, by decide +kernel⟩
set_option maxHeartbeats 4000000 in
set_option maxRecDepth 100000 in
theorem cX6_isLane_ok (l : Launch) (d : va_G) (cy : Nat → ClassId) (i0 : Int32) (r : Int32) (h0 : fX6_isLane i0 = some (r)) : CI l yX6_isLane cX6_isLane 1 (some .boolean) 1 25 d cy [.int i0] ([]) ([]) r := by
  refine CZ.of (by decide) (Nat.le_of_ble_eq_true rfl) ?_
  intro p e s m args below meth c A ls Q F hret hw hl
  have hx := F.1
  have hb := F.2.1
  have hl : lv_has ls 1 [(0, .int i0)] := hl
  rw [fX6_isLane] at h0
  refine lv_iload_n hx hb dX6_isLane_0 rfl (lv_at hl 0 rfl) ?_
  refine lv_i2l hx hb dX6_isLane_1 rfl ?_
  refine lv_lconst (v := 0) hx hb dX6_isLane_2 (by decide) ?_
  refine lv_ldc2 (v := 3) hx hb F.2.2.2.2.2.1 (F.2.2.2.2.2.2.1 _ t_1061) dX6_isLane_3 ?_
  obtain ⟨r1, k2, h4⟩ := ob1 h0
  clear h0
  refine g_si F (cX6_in_ok l d cy (Int32.toInt64 i0) 0 3 r1 k2) cal_X6_in t_793 rfl ⟨by decide, by decide⟩ hw (w' := []) Cut.nil hl.1 (Nat.le_of_ble_eq_true rfl) rfl dX6_isLane_6 (fun H locs hw => ?_)
  obtain ⟨k3, h5⟩ := ob0 h4
  clear h4
  obtain rfl := inj1 h5
  exact hret _ _ _ _ (isb_nar k3) hw dX6_isLane_9
theorem cal_X6_why : CalV yX6_why cX6_why 5 (some .int) RX6 4 := ⟨t_1068, t_1067, t_34, t_43, by decide +kernel⟩
set_option maxHeartbeats 4000000 in
set_option maxRecDepth 100000 in
theorem cX6_why_ok (l : Launch) (d : va_G) (cy : Nat → ClassId) (m0 m1 m2 m3 m4 m5 m6 m7 m8 m9 m10 : Nat) (m_now : Nat → Int32) (m_tape : Nat → Int32) (m_typed : Int32) (m_place : Int32) (m_isFault : Int32) (m_readWet : Int32) (m_readHarvest : Int32) (m_read : Nat → Int32) (m_undone : Nat → Int32) (m_undos : Int32) (m_bestGain : Int32) (m_aside : Nat → Int32) (m_kept : Nat → Int32) (m_keptUndos : Int32) (m_isKept : Int32) (m_lanes : Nat → Int32) (m_sizes : Nat → Int32) (m_items : Nat → Int64) (m_moved : Nat → Int64) (i1 : Int32) (i2 : Int32) (i3 : Int32) (i4 : Int32) (r : Int32) (h0 : fX6_why m_lanes m_sizes i1 i2 i3 i4 = some (r)) : CI l yX6_why cX6_why 5 (some .int) 0 0 d cy [.ref m0, .int i1, .int i2, .int i3, .int i4] (wM cy m0 m1 m2 m3 m4 m5 m6 m7 m8 m9 m10 m_now m_tape m_typed m_place m_isFault m_readWet m_readHarvest m_read m_undone m_undos m_bestGain m_aside m_kept m_keptUndos m_isKept m_lanes m_sizes m_items m_moved) (wM cy m0 m1 m2 m3 m4 m5 m6 m7 m8 m9 m10 m_now m_tape m_typed m_place m_isFault m_readWet m_readHarvest m_read m_undone m_undos m_bestGain m_aside m_kept m_keptUndos m_isKept m_lanes m_sizes m_items m_moved) r := by
  refine CI.of (by decide) (Nat.le_of_ble_eq_true rfl) ?_
  intro p e s m args below meth c A ls Q F hret hw hl
  have hx := F.1
  have hb := F.2.1
  have hl : lv_has ls 5 [(0, .ref m0), (1, .int i1), (2, .int i2), (3, .int i3), (4, .int i4)] := hl
  rw [fX6_why] at h0
  refine lv_aload_n hx hb dX6_why_0 rfl (lv_at hl 0 rfl) ?_
  refine g_get F inG6 hw 0 rfl rfl 15 (by decide) t_745 (fun _ h9 => h9) rfl dX6_why_1 ?_
  refine lv_iload_n hx hb dX6_why_4 rfl (lv_at hl 1 rfl) ?_
  obtain ⟨j1, k2, h8⟩ := ob1 h0
  clear h0
  refine g_iald F hw 7 rfl k2 dX6_why_5 ?_
  refine lv_if_ge (tgt := 12) hx hb dX6_why_6 (by decide) (fun c3 => ?_) (fun c3 => ?_)
  · rw [if_pos c3] at h8
    refine lv_aload_n hx hb dX6_why_12 rfl (lv_at hl 0 rfl) ?_
    refine g_get F inG6 hw 0 rfl rfl 15 (by decide) t_745 (fun _ h9 => h9) rfl dX6_why_13 ?_
    refine lv_iload_n hx hb dX6_why_16 rfl (lv_at hl 1 rfl) ?_
    refine g_iald F hw 7 rfl k2 dX6_why_17 ?_
    refine lv_iload_n hx hb dX6_why_18 rfl (lv_at hl 2 rfl) ?_
    refine lv_icmp_eq (tgt := 25) hx hb dX6_why_19 (by decide) (fun c4 => ?_) (fun c4 => ?_)
    · rw [if_pos c4] at h8
      refine lv_iload_n hx hb dX6_why_25 rfl (lv_at hl 3 rfl) ?_
      refine lv_if_lt (tgt := 51) hx hb dX6_why_26 (by decide) (fun c5 => ?_) (fun c5 => ?_)
      · rw [if_pos c5] at h8
        refine lv_bipush (v := (-13)) hx hb dX6_why_51 (by decide) ?_
        refine lv_goto (tgt := 57) hx hb dX6_why_53 (by decide) ?_
        obtain rfl := inj1 h8
        exact hret _ _ _ _ hw dX6_why_57
      · rw [if_neg c5] at h8
        refine lv_iload hx hb dX6_why_29 (lv_at hl 4 rfl) ?_
        refine lv_if_lt (tgt := 51) hx hb dX6_why_31 (by decide) (fun c6 => ?_) (fun c6 => ?_)
        · rw [if_pos c6] at h8
          refine lv_bipush (v := (-13)) hx hb dX6_why_51 (by decide) ?_
          refine lv_goto (tgt := 57) hx hb dX6_why_53 (by decide) ?_
          obtain rfl := inj1 h8
          exact hret _ _ _ _ hw dX6_why_57
        · rw [if_neg c6] at h8
          refine lv_iload_n hx hb dX6_why_34 rfl (lv_at hl 3 rfl) ?_
          refine lv_i2l hx hb dX6_why_35 rfl ?_
          refine lv_iload hx hb dX6_why_36 (lv_at hl 4 rfl) ?_
          refine lv_i2l hx hb dX6_why_38 rfl ?_
          refine lv_ladd hx hb dX6_why_39 ?_
          refine lv_aload_n hx hb dX6_why_40 rfl (lv_at hl 0 rfl) ?_
          refine g_get F inG6 hw 0 rfl rfl 16 (by decide) t_746 (fun _ h9 => h9) rfl dX6_why_41 ?_
          refine lv_iload_n hx hb dX6_why_44 rfl (lv_at hl 1 rfl) ?_
          refine g_iald F hw 8 rfl k2 dX6_why_45 ?_
          refine lv_i2l hx hb dX6_why_46 rfl ?_
          refine W.lcmp hx hb dX6_why_47 ?_
          refine lv_if_le (tgt := 56) hx hb dX6_why_48 (by decide) (fun c7 => ?_) (fun c7 => ?_)
          · rw [if_pos c7] at h8
            refine lv_iconst (v := 0) hx hb dX6_why_56 (by decide) ?_
            obtain rfl := inj1 h8
            exact hret _ _ _ _ hw dX6_why_57
          · rw [if_neg c7] at h8
            refine lv_bipush (v := (-13)) hx hb dX6_why_51 (by decide) ?_
            refine lv_goto (tgt := 57) hx hb dX6_why_53 (by decide) ?_
            obtain rfl := inj1 h8
            exact hret _ _ _ _ hw dX6_why_57
    · rw [if_neg c4] at h8
      refine lv_bipush (v := (-12)) hx hb dX6_why_22 (by decide) ?_
      obtain rfl := inj1 h8
      exact hret _ _ _ _ hw dX6_why_24
  · rw [if_neg c3] at h8
    refine lv_bipush (v := (-11)) hx hb dX6_why_9 (by decide) ?_
    obtain rfl := inj1 h8
    exact hret _ _ _ _ hw dX6_why_11
theorem cal_X6_isSo : CalV yX6_isSo cX6_isSo 6 (some .boolean) RX6 3 := ⟨t_1072, t_1071, t_35, t_43, by decide +kernel⟩
set_option maxHeartbeats 4000000 in
set_option maxRecDepth 100000 in
theorem cX6_isSo_ok (l : Launch) (d : va_G) (cy : Nat → ClassId) (m0 m1 m2 m3 m4 m5 m6 m7 m8 m9 m10 : Nat) (m_now : Nat → Int32) (m_tape : Nat → Int32) (m_typed : Int32) (m_place : Int32) (m_isFault : Int32) (m_readWet : Int32) (m_readHarvest : Int32) (m_read : Nat → Int32) (m_undone : Nat → Int32) (m_undos : Int32) (m_bestGain : Int32) (m_aside : Nat → Int32) (m_kept : Nat → Int32) (m_keptUndos : Int32) (m_isKept : Int32) (m_lanes : Nat → Int32) (m_sizes : Nat → Int32) (m_items : Nat → Int64) (m_moved : Nat → Int64) (i1 : Int32) (i2 : Int32) (i3 : Int32) (r : Int32) (h0 : fX6_isSo m_now m_items i1 i2 i3 = some (r)) : CI l yX6_isSo cX6_isSo 6 (some .boolean) 4 93 d cy [.ref m0, .int i1, .int i2, .int i3] (wM cy m0 m1 m2 m3 m4 m5 m6 m7 m8 m9 m10 m_now m_tape m_typed m_place m_isFault m_readWet m_readHarvest m_read m_undone m_undos m_bestGain m_aside m_kept m_keptUndos m_isKept m_lanes m_sizes m_items m_moved) (wM cy m0 m1 m2 m3 m4 m5 m6 m7 m8 m9 m10 m_now m_tape m_typed m_place m_isFault m_readWet m_readHarvest m_read m_undone m_undos m_bestGain m_aside m_kept m_keptUndos m_isKept m_lanes m_sizes m_items m_moved) r := by
  refine CZ.of (by decide) (Nat.le_of_ble_eq_true rfl) ?_
  intro p e s m args below meth c A ls Q F hret hw hl
  have hx := F.1
  have hb := F.2.1
  have hl : lv_has ls 6 [(0, .ref m0), (1, .int i1), (2, .int i2), (3, .int i3)] := hl
  rw [fX6_isSo] at h0
  refine lv_iconst (v := 1) hx hb dX6_isSo_0 (by decide) ?_
  refine lv_istore (lv' := [(4, .int 1), (0, .ref m0), (1, .int i1), (2, .int i2), (3, .int i3)]) hx hb dX6_isSo_1 hl (by decide) rfl (fun ls hl => ?_)
  refine lv_iconst (v := 0) hx hb dX6_isSo_3 (by decide) ?_
  refine lv_istore (lv' := [(5, .int 0), (4, .int 1), (0, .ref m0), (1, .int i1), (2, .int i2), (3, .int i3)]) hx hb dX6_isSo_4 hl (by decide) rfl (fun ls hl => ?_)
  obtain ⟨o38, h55, h56⟩ := ob1 h0
  clear h0
  have kont35 : ∀ (H : Heap) (locs : List Loc) (ls : Array Slot), Wd d A s.heap (wM cy m0 m1 m2 m3 m4 m5 m6 m7 m8 m9 m10 m_now m_tape m_typed m_place m_isFault m_readWet m_readHarvest m_read m_undone m_undos m_bestGain m_aside m_kept m_keptUndos m_isKept m_lanes m_sizes m_items m_moved) H locs → lv_has ls 6 [(4, .int o38)] → W p l e (rmo 4 93) s m args below meth c H locs 0 0 Q (F0 m 51 ls []) := by
    intro H locs ls hw hl
    clear h55
    refine lv_iload hx hb dX6_isSo_51 (lv_at hl 0 rfl) ?_
    obtain ⟨k54, h57⟩ := ob0 h56
    clear h56
    obtain rfl := inj1 h57
    exact hret _ _ _ _ (isb_nar k54) hw dX6_isSo_53
  clear h56
  have loop37 : ∀ (n : Nat) (v33 : Int32) (v34 : Int32) (H : Heap) (locs : List Loc) (ls : Array Slot), Wd d A s.heap (wM cy m0 m1 m2 m3 m4 m5 m6 m7 m8 m9 m10 m_now m_tape m_typed m_place m_isFault m_readWet m_readHarvest m_read m_undone m_undos m_bestGain m_aside m_kept m_keptUndos m_isKept m_lanes m_sizes m_items m_moved) H locs → lv_has ls 6 [(0, .ref m0), (1, .int i1), (2, .int i2), (3, .int i3), (4, .int v33), (5, .int v34)] → fX6_isSo_L6 i1 i2 i3 m_items m_now n v33 v34 = some (o38) → W p l e (rmo 4 93) s m args below meth c H locs 0 0 Q (F0 m 6 ls []) := by
    intro n
    induction n with
    | zero =>
      intro v33 v34 H locs ls hw hl h58
      rw [fX6_isSo_L6] at h58
      cases h58
    | succ n ih36 =>
      intro v33 v34 H locs ls hw hl h59
      rw [fX6_isSo_L6] at h59
      refine lv_iload hx hb dX6_isSo_6 (lv_at hl 5 rfl) ?_
      refine lv_iload_n hx hb dX6_isSo_8 rfl (lv_at hl 3 rfl) ?_
      refine lv_icmp_ge (tgt := 51) hx hb dX6_isSo_9 (by decide) (fun c39 => ?_) (fun c39 => ?_)
      · rw [if_pos c39] at h59
        obtain rfl := inj1 h59
        exact kont35 _ _ _ hw (lv_sub hl [4] rfl)
      · rw [if_neg c39] at h59
        refine lv_iload hx hb dX6_isSo_12 (lv_at hl 4 rfl) ?_
        obtain ⟨x46, h60, h61⟩ := ob1 h59
        clear h59
        have kont47 : ∀ (H : Heap) (locs : List Loc) (ls : Array Slot), Wd d A s.heap (wM cy m0 m1 m2 m3 m4 m5 m6 m7 m8 m9 m10 m_now m_tape m_typed m_place m_isFault m_readWet m_readHarvest m_read m_undone m_undos m_bestGain m_aside m_kept m_keptUndos m_isKept m_lanes m_sizes m_items m_moved) H locs → lv_has ls 6 [(0, .ref m0), (1, .int i1), (2, .int i2), (3, .int i3), (5, .int v34)] → W p l e (rmo 4 93) s m args below meth c H locs 0 0 Q (F0 m 43 ls [.int x46]) := by
          intro H locs ls hw hl
          clear h60
          refine lv_istore (lv' := [(4, .int x46), (0, .ref m0), (1, .int i1), (2, .int i2), (3, .int i3), (5, .int v34)]) hx hb dX6_isSo_43 hl (by decide) rfl (fun ls hl => ?_)
          refine lv_iinc (v := (v34 + 1)) (lv' := [(5, .int (v34 + 1)), (4, .int x46), (0, .ref m0), (1, .int i1), (2, .int i2), (3, .int i3)]) hx hb dX6_isSo_45 hl (k := 5) rfl rfl (by decide) rfl (fun ls hl => ?_)
          refine lv_goto (tgt := 6) hx hb dX6_isSo_48 (by decide) ?_
          exact ih36 x46 (v34 + 1) _ _ _ hw (lv_sub hl [2, 3, 4, 5, 1, 0] rfl) h61
        clear h61
        refine lv_if_eq (tgt := 42) hx hb dX6_isSo_14 (by decide) (fun c48 => ?_) (fun c48 => ?_)
        · rw [if_pos c48] at h60
          refine lv_iconst (v := 0) hx hb dX6_isSo_42 (by decide) ?_
          obtain rfl := inj1 h60
          exact kont47 _ _ _ hw (lv_sub hl [0, 1, 2, 3, 5] rfl)
        · rw [if_neg c48] at h60
          refine lv_aload_n hx hb dX6_isSo_17 rfl (lv_at hl 0 rfl) ?_
          refine lv_iload_n hx hb dX6_isSo_18 rfl (lv_at hl 1 rfl) ?_
          refine lv_iload hx hb dX6_isSo_19 (lv_at hl 5 rfl) ?_
          obtain ⟨r49, k50, h62⟩ := ob1 h60
          clear h60
          refine g_vi F (cX6_worthOf_ok l d cy m0 m1 m2 m3 m4 m5 m6 m7 m8 m9 m10 m_now m_tape m_typed m_place m_isFault m_readWet m_readHarvest m_read m_undone m_undos m_bestGain m_aside m_kept m_keptUndos m_isKept m_lanes m_sizes m_items m_moved i1 v34 r49 k50) cal_X6_worthOf t_842 rfl ⟨by decide, by decide⟩ hw (w' := wM cy m0 m1 m2 m3 m4 m5 m6 m7 m8 m9 m10 m_now m_tape m_typed m_place m_isFault m_readWet m_readHarvest m_read m_undone m_undos m_bestGain m_aside m_kept m_keptUndos m_isKept m_lanes m_sizes m_items m_moved) Cut.all 0 6 rfl rfl hl.1 (Nat.le_of_ble_eq_true rfl) rfl dX6_isSo_21 (fun H locs hw => ?_)
          refine lv_i2l hx hb dX6_isSo_24 rfl ?_
          refine lv_aload_n hx hb dX6_isSo_25 rfl (lv_at hl 0 rfl) ?_
          refine g_get F inG6 hw 0 rfl rfl 17 (by decide) t_747 (fun _ h9 => h9) rfl dX6_isSo_26 ?_
          refine lv_iload_n hx hb dX6_isSo_29 rfl (lv_at hl 2 rfl) ?_
          refine lv_iload hx hb dX6_isSo_30 (lv_at hl 5 rfl) ?_
          refine lv_iadd hx hb dX6_isSo_32 ?_
          obtain ⟨j51, k52, h63⟩ := ob1 h62
          clear h62
          refine g_lald F hw 9 rfl k52 dX6_isSo_33 ?_
          refine W.lcmp hx hb dX6_isSo_34 ?_
          refine lv_if_ne (tgt := 42) hx hb dX6_isSo_35 (by decide) (fun c53 => ?_) (fun c53 => ?_)
          · rw [if_neg c53] at h63
            refine lv_iconst (v := 0) hx hb dX6_isSo_42 (by decide) ?_
            obtain rfl := inj1 h63
            exact kont47 _ _ _ hw (lv_sub hl [0, 1, 2, 3, 5] rfl)
          · rw [if_pos c53] at h63
            refine lv_iconst (v := 1) hx hb dX6_isSo_38 (by decide) ?_
            refine lv_goto (tgt := 43) hx hb dX6_isSo_39 (by decide) ?_
            obtain rfl := inj1 h63
            exact kont47 _ _ _ hw (lv_sub hl [0, 1, 2, 3, 5] rfl)
  exact loop37 fl 1 0 _ _ _ hw (lv_sub hl [2, 3, 4, 5, 1, 0] rfl) h55
theorem cal_X6_told : CalV yX6_told cX6_told 12 (some .int) RX6 6 := ⟨t_1057, t_1055, t_1056, t_43, by decide +kernel⟩
set_option maxHeartbeats 4000000 in
set_option maxRecDepth 100000 in
theorem cX6_told_ok (l : Launch) (d : va_G) (cy : Nat → ClassId) (m0 m1 m2 m3 m4 m5 m6 m7 m8 m9 m10 : Nat) (m_now : Nat → Int32) (m_tape : Nat → Int32) (m_typed : Int32) (m_place : Int32) (m_isFault : Int32) (m_readWet : Int32) (m_readHarvest : Int32) (m_read : Nat → Int32) (m_undone : Nat → Int32) (m_undos : Int32) (m_bestGain : Int32) (m_aside : Nat → Int32) (m_kept : Nat → Int32) (m_keptUndos : Int32) (m_isKept : Int32) (m_lanes : Nat → Int32) (m_sizes : Nat → Int32) (m_items : Nat → Int64) (m_moved : Nat → Int64) (i1 : Int32) (i2 : Int32) (i3 : Int32) (i4 : Int32) (i5 : Int32) (i6 : Int32) (r : Int32) (m_now_r : Nat → Int32) (h0 : fX6_told m_now m_lanes m_sizes m_items i1 i2 i3 i4 i5 i6 = some (r, m_now_r)) : CI l yX6_told cX6_told 12 (some .int) 5 118 d cy [.ref m0, .int i1, .int i2, .int i3, .int i4, .int i5, .int i6] (wM cy m0 m1 m2 m3 m4 m5 m6 m7 m8 m9 m10 m_now m_tape m_typed m_place m_isFault m_readWet m_readHarvest m_read m_undone m_undos m_bestGain m_aside m_kept m_keptUndos m_isKept m_lanes m_sizes m_items m_moved) (wM cy m0 m1 m2 m3 m4 m5 m6 m7 m8 m9 m10 m_now_r m_tape m_typed m_place m_isFault m_readWet m_readHarvest m_read m_undone m_undos m_bestGain m_aside m_kept m_keptUndos m_isKept m_lanes m_sizes m_items m_moved) r := by
  refine CI.of (by decide) (Nat.le_of_ble_eq_true rfl) ?_
  intro p e s m args below meth c A ls Q F hret hw hl
  have hx := F.1
  have hb := F.2.1
  have hl : lv_has ls 12 [(0, .ref m0), (1, .int i1), (2, .int i2), (3, .int i3), (4, .int i4), (5, .int i5), (6, .int i6)] := hl
  rw [fX6_told] at h0
  refine lv_aload_n hx hb dX6_told_0 rfl (lv_at hl 0 rfl) ?_
  refine lv_iload_n hx hb dX6_told_1 rfl (lv_at hl 1 rfl) ?_
  obtain ⟨r1, k2, h83⟩ := ob1 h0
  clear h0
  refine g_vi F (cX6_isPerson_ok l d cy m0 m1 m2 m3 m4 m5 m6 m7 m8 m9 m10 m_now m_tape m_typed m_place m_isFault m_readWet m_readHarvest m_read m_undone m_undos m_bestGain m_aside m_kept m_keptUndos m_isKept m_lanes m_sizes m_items m_moved i1 r1 k2) cal_X6_isPerson t_804 rfl ⟨by decide, by decide⟩ hw (w' := wM cy m0 m1 m2 m3 m4 m5 m6 m7 m8 m9 m10 m_now m_tape m_typed m_place m_isFault m_readWet m_readHarvest m_read m_undone m_undos m_bestGain m_aside m_kept m_keptUndos m_isKept m_lanes m_sizes m_items m_moved) Cut.all 0 6 rfl rfl hl.1 (Nat.le_of_ble_eq_true rfl) rfl dX6_told_2 (fun H locs hw => ?_)
  refine lv_if_eq (tgt := 46) hx hb dX6_told_5 (by decide) (fun c3 => ?_) (fun c3 => ?_)
  · rw [if_pos c3] at h83
    refine lv_iconst (v := (-1)) hx hb dX6_told_46 (by decide) ?_
    obtain ⟨rfl, rfl⟩ := inj2 h83
    exact hret _ _ _ _ hw dX6_told_47
  · rw [if_neg c3] at h83
    refine lv_iload_n hx hb dX6_told_8 rfl (lv_at hl 2 rfl) ?_
    obtain ⟨r4, k5, h84⟩ := ob1 h83
    clear h83
    refine g_si F (cX6_isSheet_ok l d cy i2 r4 k5) cal_X6_isSheet t_1058 rfl ⟨by decide, by decide⟩ hw (w' := wM cy m0 m1 m2 m3 m4 m5 m6 m7 m8 m9 m10 m_now m_tape m_typed m_place m_isFault m_readWet m_readHarvest m_read m_undone m_undos m_bestGain m_aside m_kept m_keptUndos m_isKept m_lanes m_sizes m_items m_moved) Cut.nil hl.1 (Nat.le_of_ble_eq_true rfl) rfl dX6_told_9 (fun H locs hw => ?_)
    refine lv_if_eq (tgt := 46) hx hb dX6_told_12 (by decide) (fun c6 => ?_) (fun c6 => ?_)
    · rw [if_pos c6] at h84
      refine lv_iconst (v := (-1)) hx hb dX6_told_46 (by decide) ?_
      obtain ⟨rfl, rfl⟩ := inj2 h84
      exact hret _ _ _ _ hw dX6_told_47
    · rw [if_neg c6] at h84
      refine lv_iload_n hx hb dX6_told_15 rfl (lv_at hl 3 rfl) ?_
      obtain ⟨r7, k8, h85⟩ := ob1 h84
      clear h84
      refine g_si F (cX6_isLane_ok l d cy i3 r7 k8) cal_X6_isLane t_1062 rfl ⟨by decide, by decide⟩ hw (w' := wM cy m0 m1 m2 m3 m4 m5 m6 m7 m8 m9 m10 m_now m_tape m_typed m_place m_isFault m_readWet m_readHarvest m_read m_undone m_undos m_bestGain m_aside m_kept m_keptUndos m_isKept m_lanes m_sizes m_items m_moved) Cut.nil hl.1 (Nat.le_of_ble_eq_true rfl) rfl dX6_told_16 (fun H locs hw => ?_)
      refine lv_if_eq (tgt := 46) hx hb dX6_told_19 (by decide) (fun c9 => ?_) (fun c9 => ?_)
      · rw [if_pos c9] at h85
        refine lv_iconst (v := (-1)) hx hb dX6_told_46 (by decide) ?_
        obtain ⟨rfl, rfl⟩ := inj2 h85
        exact hret _ _ _ _ hw dX6_told_47
      · rw [if_neg c9] at h85
        refine lv_iload hx hb dX6_told_22 (lv_at hl 5 rfl) ?_
        refine lv_i2l hx hb dX6_told_24 rfl ?_
        refine lv_lconst (v := 1) hx hb dX6_told_25 (by decide) ?_
        refine lv_ldc2 (v := 12) hx hb F.2.2.2.2.2.1 (F.2.2.2.2.2.2.1 _ t_816) dX6_told_26 ?_
        obtain ⟨r10, k11, h86⟩ := ob1 h85
        clear h85
        refine g_si F (cX6_in_ok l d cy (Int32.toInt64 i5) 1 12 r10 k11) cal_X6_in t_793 rfl ⟨by decide, by decide⟩ hw (w' := wM cy m0 m1 m2 m3 m4 m5 m6 m7 m8 m9 m10 m_now m_tape m_typed m_place m_isFault m_readWet m_readHarvest m_read m_undone m_undos m_bestGain m_aside m_kept m_keptUndos m_isKept m_lanes m_sizes m_items m_moved) Cut.nil hl.1 (Nat.le_of_ble_eq_true rfl) rfl dX6_told_29 (fun H locs hw => ?_)
        refine lv_if_eq (tgt := 46) hx hb dX6_told_32 (by decide) (fun c12 => ?_) (fun c12 => ?_)
        · rw [if_pos c12] at h86
          refine lv_iconst (v := (-1)) hx hb dX6_told_46 (by decide) ?_
          obtain ⟨rfl, rfl⟩ := inj2 h86
          exact hret _ _ _ _ hw dX6_told_47
        · rw [if_neg c12] at h86
          refine lv_iload hx hb dX6_told_35 (lv_at hl 6 rfl) ?_
          refine lv_i2l hx hb dX6_told_37 rfl ?_
          refine lv_lconst (v := 0) hx hb dX6_told_38 (by decide) ?_
          refine lv_lconst (v := 1) hx hb dX6_told_39 (by decide) ?_
          obtain ⟨r13, k14, h87⟩ := ob1 h86
          clear h86
          refine g_si F (cX6_in_ok l d cy (Int32.toInt64 i6) 0 1 r13 k14) cal_X6_in t_793 rfl ⟨by decide, by decide⟩ hw (w' := wM cy m0 m1 m2 m3 m4 m5 m6 m7 m8 m9 m10 m_now m_tape m_typed m_place m_isFault m_readWet m_readHarvest m_read m_undone m_undos m_bestGain m_aside m_kept m_keptUndos m_isKept m_lanes m_sizes m_items m_moved) Cut.nil hl.1 (Nat.le_of_ble_eq_true rfl) rfl dX6_told_40 (fun H locs hw => ?_)
          refine lv_if_ne (tgt := 48) hx hb dX6_told_43 (by decide) (fun c15 => ?_) (fun c15 => ?_)
          · rw [if_neg c15] at h87
            refine lv_aload_n hx hb dX6_told_48 rfl (lv_at hl 0 rfl) ?_
            refine lv_iload_n hx hb dX6_told_49 rfl (lv_at hl 2 rfl) ?_
            refine lv_iload_n hx hb dX6_told_50 rfl (lv_at hl 3 rfl) ?_
            refine lv_iload hx hb dX6_told_51 (lv_at hl 4 rfl) ?_
            refine lv_iload hx hb dX6_told_53 (lv_at hl 5 rfl) ?_
            obtain ⟨r16, k17, h88⟩ := ob1 h87
            clear h87
            refine g_vi F (cX6_why_ok l d cy m0 m1 m2 m3 m4 m5 m6 m7 m8 m9 m10 m_now m_tape m_typed m_place m_isFault m_readWet m_readHarvest m_read m_undone m_undos m_bestGain m_aside m_kept m_keptUndos m_isKept m_lanes m_sizes m_items m_moved i2 i3 i4 i5 r16 k17) cal_X6_why t_1065 rfl ⟨by decide, by decide⟩ hw (w' := wM cy m0 m1 m2 m3 m4 m5 m6 m7 m8 m9 m10 m_now m_tape m_typed m_place m_isFault m_readWet m_readHarvest m_read m_undone m_undos m_bestGain m_aside m_kept m_keptUndos m_isKept m_lanes m_sizes m_items m_moved) Cut.all 0 6 rfl rfl hl.1 (Nat.le_of_ble_eq_true rfl) rfl dX6_told_55 (fun H locs hw => ?_)
            refine lv_istore (lv' := [(7, .int r16), (0, .ref m0), (1, .int i1), (2, .int i2), (3, .int i3), (4, .int i4), (5, .int i5), (6, .int i6)]) hx hb dX6_told_58 hl (by decide) rfl (fun ls hl => ?_)
            refine lv_iload hx hb dX6_told_60 (lv_at hl 0 rfl) ?_
            refine lv_if_ge (tgt := 68) hx hb dX6_told_62 (by decide) (fun c18 => ?_) (fun c18 => ?_)
            · rw [if_pos c18] at h88
              refine lv_iconst (v := 0) hx hb dX6_told_68 (by decide) ?_
              refine lv_istore (lv' := [(8, .int 0), (7, .int r16), (0, .ref m0), (1, .int i1), (2, .int i2), (3, .int i3), (4, .int i4), (5, .int i5), (6, .int i6)]) hx hb dX6_told_69 hl (by decide) rfl (fun ls hl => ?_)
              refine lv_iconst (v := 5) hx hb dX6_told_71 (by decide) ?_
              refine lv_iconst (v := 3) hx hb dX6_told_72 (by decide) ?_
              refine lv_iload_n hx hb dX6_told_73 rfl (lv_at hl 3 rfl) ?_
              refine lv_imul hx hb dX6_told_74 ?_
              refine lv_iadd hx hb dX6_told_75 ?_
              refine lv_iload hx hb dX6_told_76 (lv_at hl 8 rfl) ?_
              refine lv_iadd hx hb dX6_told_78 ?_
              refine lv_istore (lv' := [(9, .int ((5 + (3 * i1)) + i6)), (8, .int 0), (7, .int r16), (0, .ref m0), (1, .int i1), (2, .int i2), (3, .int i3), (4, .int i4), (5, .int i5), (6, .int i6)]) hx hb dX6_told_79 hl (by decide) rfl (fun ls hl => ?_)
              refine lv_aload_n hx hb dX6_told_81 rfl (lv_at hl 3 rfl) ?_
              refine g_get F inG6 hw 0 rfl rfl 0 (by decide) t_730 (fun _ h9 => h9) rfl dX6_told_82 ?_
              refine lv_iload hx hb dX6_told_85 (lv_at hl 0 rfl) ?_
              obtain ⟨j19, k20, h89⟩ := ob1 h88
              clear h88
              refine g_iald F hw 1 rfl k20 dX6_told_87 ?_
              refine lv_istore (lv' := [(10, .int (m_now j19)), (9, .int ((5 + (3 * i1)) + i6)), (8, .int 0), (7, .int r16), (0, .ref m0), (1, .int i1), (2, .int i2), (3, .int i3), (4, .int i4), (5, .int i5), (6, .int i6)]) hx hb dX6_told_88 hl (by decide) rfl (fun ls hl => ?_)
              refine lv_iconst (v := 0) hx hb dX6_told_90 (by decide) ?_
              refine lv_istore (lv' := [(11, .int 0), (10, .int (m_now j19)), (9, .int ((5 + (3 * i1)) + i6)), (8, .int 0), (7, .int r16), (0, .ref m0), (1, .int i1), (2, .int i2), (3, .int i3), (4, .int i4), (5, .int i5), (6, .int i6)]) hx hb dX6_told_91 hl (by decide) rfl (fun ls hl => ?_)
              obtain ⟨q64, o65, h90, h91⟩ := ob2 h89
              clear h89
              have kont61 : ∀ (H : Heap) (locs : List Loc) (ls : Array Slot), Wd d A s.heap (wM cy m0 m1 m2 m3 m4 m5 m6 m7 m8 m9 m10 q64 m_tape m_typed m_place m_isFault m_readWet m_readHarvest m_read m_undone m_undos m_bestGain m_aside m_kept m_keptUndos m_isKept m_lanes m_sizes m_items m_moved) H locs → lv_has ls 12 [(0, .ref m0), (8, .int o65), (9, .int ((5 + (3 * i1)) + i6)), (10, .int (m_now j19))] → W p l e (rmo 5 118) s m args below meth c H locs 0 0 Q (F0 m 158 ls []) := by
                intro H locs ls hw hl
                clear h90
                refine lv_aload_n hx hb dX6_told_158 rfl (lv_at hl 0 rfl) ?_
                refine g_get F inG6 hw 0 rfl rfl 0 (by decide) t_730 (fun _ h9 => h9) rfl dX6_told_159 ?_
                refine lv_iload hx hb dX6_told_162 (lv_at hl 2 rfl) ?_
                refine lv_iload hx hb dX6_told_164 (lv_at hl 3 rfl) ?_
                refine g_iast F hw 1 rfl k20 dX6_told_166 (w' := wM cy m0 m1 m2 m3 m4 m5 m6 m7 m8 m9 m10 (upd q64 j19 (m_now j19)) m_tape m_typed m_place m_isFault m_readWet m_readHarvest m_read m_undone m_undos m_bestGain m_aside m_kept m_keptUndos m_isKept m_lanes m_sizes m_items m_moved) rfl (fun H locs hw => ?_)
                refine lv_iload hx hb dX6_told_167 (lv_at hl 1 rfl) ?_
                obtain ⟨rfl, rfl⟩ := inj2 h91
                exact hret _ _ _ _ hw dX6_told_169
              clear h91
              have loop63 : ∀ (n : Nat) (v58 : Int32) (v59 : Int32) (g60 : Nat → Int32) (H : Heap) (locs : List Loc) (ls : Array Slot), Wd d A s.heap (wM cy m0 m1 m2 m3 m4 m5 m6 m7 m8 m9 m10 g60 m_tape m_typed m_place m_isFault m_readWet m_readHarvest m_read m_undone m_undos m_bestGain m_aside m_kept m_keptUndos m_isKept m_lanes m_sizes m_items m_moved) H locs → lv_has ls 12 [(0, .ref m0), (1, .int i1), (2, .int i2), (4, .int i4), (5, .int i5), (6, .int i6), (8, .int v59), (9, .int ((5 + (3 * i1)) + i6)), (10, .int (m_now j19)), (11, .int v58)] → fX6_told_L93 i1 i2 i4 i5 i6 m_items n v58 v59 g60 = some (q64, o65) → W p l e (rmo 5 118) s m args below meth c H locs 0 0 Q (F0 m 93 ls []) := by
                intro n
                induction n with
                | zero =>
                  intro v58 v59 g60 H locs ls hw hl h92
                  rw [fX6_told_L93] at h92
                  cases h92
                | succ n ih62 =>
                  intro v58 v59 g60 H locs ls hw hl h93
                  rw [fX6_told_L93] at h93
                  refine lv_iload hx hb dX6_told_93 (lv_at hl 9 rfl) ?_
                  refine lv_iload hx hb dX6_told_95 (lv_at hl 5 rfl) ?_
                  obtain ⟨x69, h94, h95⟩ := ob1 h93
                  clear h93
                  have kont70 : ∀ (H : Heap) (locs : List Loc) (ls : Array Slot), Wd d A s.heap (wM cy m0 m1 m2 m3 m4 m5 m6 m7 m8 m9 m10 g60 m_tape m_typed m_place m_isFault m_readWet m_readHarvest m_read m_undone m_undos m_bestGain m_aside m_kept m_keptUndos m_isKept m_lanes m_sizes m_items m_moved) H locs → lv_has ls 12 [(0, .ref m0), (1, .int i1), (2, .int i2), (4, .int i4), (5, .int i5), (6, .int i6), (8, .int v59), (9, .int ((5 + (3 * i1)) + i6)), (10, .int (m_now j19)), (11, .int v58)] → W p l e (rmo 5 118) s m args below meth c H locs 0 0 Q (F0 m 110 ls [.int x69, .int v58]) := by
                    intro H locs ls hw hl
                    clear h94
                    refine lv_icmp_ge (tgt := 158) hx hb dX6_told_110 (by decide) (fun c74 => ?_) (fun c74 => ?_)
                    · rw [if_pos c74] at h95
                      obtain ⟨rfl, rfl⟩ := inj2 h95
                      exact kont61 _ _ _ hw (lv_sub hl [0, 6, 7, 8] rfl)
                    · rw [if_neg c74] at h95
                      refine lv_aload_n hx hb dX6_told_113 rfl (lv_at hl 0 rfl) ?_
                      refine g_get F inG6 hw 0 rfl rfl 0 (by decide) t_730 (fun _ h9 => h9) rfl dX6_told_114 ?_
                      refine lv_iload hx hb dX6_told_117 (lv_at hl 7 rfl) ?_
                      refine lv_iload hx hb dX6_told_119 (lv_at hl 9 rfl) ?_
                      obtain ⟨j75, k76, h96⟩ := ob1 h95
                      clear h95
                      refine g_iast F hw 1 rfl k76 dX6_told_121 (w' := wM cy m0 m1 m2 m3 m4 m5 m6 m7 m8 m9 m10 (upd g60 j75 v58) m_tape m_typed m_place m_isFault m_readWet m_readHarvest m_read m_undone m_undos m_bestGain m_aside m_kept m_keptUndos m_isKept m_lanes m_sizes m_items m_moved) rfl (fun H locs hw => ?_)
                      refine lv_iload hx hb dX6_told_122 (lv_at hl 6 rfl) ?_
                      refine lv_aload_n hx hb dX6_told_124 rfl (lv_at hl 0 rfl) ?_
                      refine lv_iload_n hx hb dX6_told_125 rfl (lv_at hl 1 rfl) ?_
                      refine lv_bipush (v := 24) hx hb dX6_told_126 (by decide) ?_
                      refine lv_iload_n hx hb dX6_told_128 rfl (lv_at hl 2 rfl) ?_
                      refine lv_imul hx hb dX6_told_129 ?_
                      refine lv_iload hx hb dX6_told_130 (lv_at hl 3 rfl) ?_
                      refine lv_iadd hx hb dX6_told_132 ?_
                      refine lv_iload hx hb dX6_told_133 (lv_at hl 4 rfl) ?_
                      obtain ⟨r77, k78, h97⟩ := ob1 h96
                      clear h96
                      refine g_vi F (cX6_isSo_ok l d cy m0 m1 m2 m3 m4 m5 m6 m7 m8 m9 m10 (upd g60 j75 v58) m_tape m_typed m_place m_isFault m_readWet m_readHarvest m_read m_undone m_undos m_bestGain m_aside m_kept m_keptUndos m_isKept m_lanes m_sizes m_items m_moved i1 ((24 * i2) + i4) i5 r77 k78) cal_X6_isSo t_1069 rfl ⟨by decide, by decide⟩ hw (w' := wM cy m0 m1 m2 m3 m4 m5 m6 m7 m8 m9 m10 (upd g60 j75 v58) m_tape m_typed m_place m_isFault m_readWet m_readHarvest m_read m_undone m_undos m_bestGain m_aside m_kept m_keptUndos m_isKept m_lanes m_sizes m_items m_moved) Cut.all 0 6 rfl rfl hl.1 (Nat.le_of_ble_eq_true rfl) rfl dX6_told_135 (fun H locs hw => ?_)
                      obtain ⟨x80, h98, h99⟩ := ob1 h97
                      clear h97
                      have kont81 : ∀ (H : Heap) (locs : List Loc) (ls : Array Slot), Wd d A s.heap (wM cy m0 m1 m2 m3 m4 m5 m6 m7 m8 m9 m10 (upd g60 j75 v58) m_tape m_typed m_place m_isFault m_readWet m_readHarvest m_read m_undone m_undos m_bestGain m_aside m_kept m_keptUndos m_isKept m_lanes m_sizes m_items m_moved) H locs → lv_has ls 12 [(0, .ref m0), (1, .int i1), (2, .int i2), (4, .int i4), (5, .int i5), (6, .int i6), (9, .int ((5 + (3 * i1)) + i6)), (10, .int (m_now j19)), (11, .int v58)] → W p l e (rmo 5 118) s m args below meth c H locs 0 0 Q (F0 m 149 ls [.int x80, .int v59]) := by
                        intro H locs ls hw hl
                        clear h98
                        refine lv_ior hx hb dX6_told_149 ?_
                        refine lv_istore (lv' := [(8, .int (v59 ||| x80)), (0, .ref m0), (1, .int i1), (2, .int i2), (4, .int i4), (5, .int i5), (6, .int i6), (9, .int ((5 + (3 * i1)) + i6)), (10, .int (m_now j19)), (11, .int v58)]) hx hb dX6_told_150 hl (by decide) rfl (fun ls hl => ?_)
                        refine lv_iinc (v := (v58 + 1)) (lv' := [(11, .int (v58 + 1)), (8, .int (v59 ||| x80)), (0, .ref m0), (1, .int i1), (2, .int i2), (4, .int i4), (5, .int i5), (6, .int i6), (9, .int ((5 + (3 * i1)) + i6)), (10, .int (m_now j19))]) hx hb dX6_told_152 hl (k := 9) rfl rfl (by decide) rfl (fun ls hl => ?_)
                        refine lv_goto (tgt := 93) hx hb dX6_told_155 (by decide) ?_
                        exact ih62 (v58 + 1) (v59 ||| x80) (upd g60 j75 v58) _ _ _ hw (lv_sub hl [2, 3, 4, 5, 6, 7, 1, 8, 9, 0] rfl) h99
                      clear h99
                      refine lv_if_eq (tgt := 148) hx hb dX6_told_138 (by decide) (fun c82 => ?_) (fun c82 => ?_)
                      · rw [if_pos c82] at h98
                        refine lv_iconst (v := 0) hx hb dX6_told_148 (by decide) ?_
                        obtain rfl := inj1 h98
                        exact kont81 _ _ _ hw (lv_sub hl [0, 1, 2, 3, 4, 5, 7, 8, 9] rfl)
                      · rw [if_neg c82] at h98
                        refine lv_iconst (v := 1) hx hb dX6_told_141 (by decide) ?_
                        refine lv_iload hx hb dX6_told_142 (lv_at hl 9 rfl) ?_
                        refine lv_ishl hx hb dX6_told_144 ?_
                        refine lv_goto (tgt := 149) hx hb dX6_told_145 (by decide) ?_
                        obtain rfl := inj1 h98
                        exact kont81 _ _ _ hw (lv_sub hl [0, 1, 2, 3, 4, 5, 7, 8, 9] rfl)
                  clear h95
                  refine lv_if_ne (tgt := 104) hx hb dX6_told_97 (by decide) (fun c71 => ?_) (fun c71 => ?_)
                  · rw [if_neg c71] at h94
                    refine lv_aload_n hx hb dX6_told_104 rfl (lv_at hl 0 rfl) ?_
                    refine g_get F inG6 hw 0 rfl rfl 0 (by decide) t_730 (fun _ h9 => h9) rfl dX6_told_105 ?_
                    refine lv_iconst (v := 0) hx hb dX6_told_108 (by decide) ?_
                    obtain ⟨j72, k73, h100⟩ := ob1 h94
                    clear h94
                    refine g_iald F hw 1 rfl k73 dX6_told_109 ?_
                    obtain rfl := inj1 h100
                    exact kont70 _ _ _ hw (lv_sub hl [0, 1, 2, 3, 4, 5, 6, 7, 8, 9] rfl)
                  · rw [if_pos c71] at h94
                    refine lv_iconst (v := 5) hx hb dX6_told_100 (by decide) ?_
                    refine lv_goto (tgt := 110) hx hb dX6_told_101 (by decide) ?_
                    obtain rfl := inj1 h94
                    exact kont70 _ _ _ hw (lv_sub hl [0, 1, 2, 3, 4, 5, 6, 7, 8, 9] rfl)
              exact loop63 fl 0 0 m_now _ _ _ hw (lv_sub hl [5, 6, 7, 9, 10, 11, 3, 2, 1, 0] rfl) h90
            · rw [if_neg c18] at h88
              refine lv_iload hx hb dX6_told_65 (lv_at hl 0 rfl) ?_
              obtain ⟨rfl, rfl⟩ := inj2 h88
              exact hret _ _ _ _ hw dX6_told_67
          · rw [if_pos c15] at h87
            refine lv_iconst (v := (-1)) hx hb dX6_told_46 (by decide) ?_
            obtain ⟨rfl, rfl⟩ := inj2 h87
            exact hret _ _ _ _ hw dX6_told_47
theorem cal_X6_film : CalV yX6_film cX6_film 8 (some .int) RX6 5 := ⟨t_1076, t_1074, t_1075, t_43, by decide +kernel⟩
set_option maxHeartbeats 4000000 in
set_option maxRecDepth 100000 in
theorem cX6_film_ok (l : Launch) (d : va_G) (cy : Nat → ClassId) (m0 m1 m2 m3 m4 m5 m6 m7 m8 m9 m10 : Nat) (m_now : Nat → Int32) (m_tape : Nat → Int32) (m_typed : Int32) (m_place : Int32) (m_isFault : Int32) (m_readWet : Int32) (m_readHarvest : Int32) (m_read : Nat → Int32) (m_undone : Nat → Int32) (m_undos : Int32) (m_bestGain : Int32) (m_aside : Nat → Int32) (m_kept : Nat → Int32) (m_keptUndos : Int32) (m_isKept : Int32) (m_lanes : Nat → Int32) (m_sizes : Nat → Int32) (m_items : Nat → Int64) (m_moved : Nat → Int64) (i1 : Int32) (i2 : Int32) (i3 : Int32) (i4 : Int32) (i5 : Int32) (r : Int32) (m_items_r : Nat → Int64) (h0 : fX6_film m_now m_lanes m_sizes m_items i1 i2 i3 i4 i5 = some (r, m_items_r)) : CI l yX6_film cX6_film 8 (some .int) 4 93 d cy [.ref m0, .int i1, .int i2, .int i3, .int i4, .int i5] (wM cy m0 m1 m2 m3 m4 m5 m6 m7 m8 m9 m10 m_now m_tape m_typed m_place m_isFault m_readWet m_readHarvest m_read m_undone m_undos m_bestGain m_aside m_kept m_keptUndos m_isKept m_lanes m_sizes m_items m_moved) (wM cy m0 m1 m2 m3 m4 m5 m6 m7 m8 m9 m10 m_now m_tape m_typed m_place m_isFault m_readWet m_readHarvest m_read m_undone m_undos m_bestGain m_aside m_kept m_keptUndos m_isKept m_lanes m_sizes m_items_r m_moved) r := by
  refine CI.of (by decide) (Nat.le_of_ble_eq_true rfl) ?_
  intro p e s m args below meth c A ls Q F hret hw hl
  have hx := F.1
  have hb := F.2.1
  have hl : lv_has ls 8 [(0, .ref m0), (1, .int i1), (2, .int i2), (3, .int i3), (4, .int i4), (5, .int i5)] := hl
  rw [fX6_film] at h0
  refine lv_aload_n hx hb dX6_film_0 rfl (lv_at hl 0 rfl) ?_
  refine lv_iload_n hx hb dX6_film_1 rfl (lv_at hl 1 rfl) ?_
  obtain ⟨r1, k2, h39⟩ := ob1 h0
  clear h0
  refine g_vi F (cX6_isPerson_ok l d cy m0 m1 m2 m3 m4 m5 m6 m7 m8 m9 m10 m_now m_tape m_typed m_place m_isFault m_readWet m_readHarvest m_read m_undone m_undos m_bestGain m_aside m_kept m_keptUndos m_isKept m_lanes m_sizes m_items m_moved i1 r1 k2) cal_X6_isPerson t_804 rfl ⟨by decide, by decide⟩ hw (w' := wM cy m0 m1 m2 m3 m4 m5 m6 m7 m8 m9 m10 m_now m_tape m_typed m_place m_isFault m_readWet m_readHarvest m_read m_undone m_undos m_bestGain m_aside m_kept m_keptUndos m_isKept m_lanes m_sizes m_items m_moved) Cut.all 0 6 rfl rfl hl.1 (Nat.le_of_ble_eq_true rfl) rfl dX6_film_2 (fun H locs hw => ?_)
  refine lv_if_eq (tgt := 35) hx hb dX6_film_5 (by decide) (fun c3 => ?_) (fun c3 => ?_)
  · rw [if_pos c3] at h39
    refine lv_iconst (v := (-1)) hx hb dX6_film_35 (by decide) ?_
    obtain ⟨rfl, rfl⟩ := inj2 h39
    exact hret _ _ _ _ hw dX6_film_36
  · rw [if_neg c3] at h39
    refine lv_iload_n hx hb dX6_film_8 rfl (lv_at hl 2 rfl) ?_
    refine lv_i2l hx hb dX6_film_9 rfl ?_
    refine lv_lconst (v := 1) hx hb dX6_film_10 (by decide) ?_
    refine lv_ldc2 (v := 12) hx hb F.2.2.2.2.2.1 (F.2.2.2.2.2.2.1 _ t_816) dX6_film_11 ?_
    obtain ⟨r4, k5, h40⟩ := ob1 h39
    clear h39
    refine g_si F (cX6_in_ok l d cy (Int32.toInt64 i2) 1 12 r4 k5) cal_X6_in t_793 rfl ⟨by decide, by decide⟩ hw (w' := wM cy m0 m1 m2 m3 m4 m5 m6 m7 m8 m9 m10 m_now m_tape m_typed m_place m_isFault m_readWet m_readHarvest m_read m_undone m_undos m_bestGain m_aside m_kept m_keptUndos m_isKept m_lanes m_sizes m_items m_moved) Cut.nil hl.1 (Nat.le_of_ble_eq_true rfl) rfl dX6_film_14 (fun H locs hw => ?_)
    refine lv_if_eq (tgt := 35) hx hb dX6_film_17 (by decide) (fun c6 => ?_) (fun c6 => ?_)
    · rw [if_pos c6] at h40
      refine lv_iconst (v := (-1)) hx hb dX6_film_35 (by decide) ?_
      obtain ⟨rfl, rfl⟩ := inj2 h40
      exact hret _ _ _ _ hw dX6_film_36
    · rw [if_neg c6] at h40
      refine lv_iload_n hx hb dX6_film_20 rfl (lv_at hl 3 rfl) ?_
      obtain ⟨r7, k8, h41⟩ := ob1 h40
      clear h40
      refine g_si F (cX6_isSheet_ok l d cy i3 r7 k8) cal_X6_isSheet t_1058 rfl ⟨by decide, by decide⟩ hw (w' := wM cy m0 m1 m2 m3 m4 m5 m6 m7 m8 m9 m10 m_now m_tape m_typed m_place m_isFault m_readWet m_readHarvest m_read m_undone m_undos m_bestGain m_aside m_kept m_keptUndos m_isKept m_lanes m_sizes m_items m_moved) Cut.nil hl.1 (Nat.le_of_ble_eq_true rfl) rfl dX6_film_21 (fun H locs hw => ?_)
      refine lv_if_eq (tgt := 35) hx hb dX6_film_24 (by decide) (fun c9 => ?_) (fun c9 => ?_)
      · rw [if_pos c9] at h41
        refine lv_iconst (v := (-1)) hx hb dX6_film_35 (by decide) ?_
        obtain ⟨rfl, rfl⟩ := inj2 h41
        exact hret _ _ _ _ hw dX6_film_36
      · rw [if_neg c9] at h41
        refine lv_iload hx hb dX6_film_27 (lv_at hl 4 rfl) ?_
        obtain ⟨r10, k11, h42⟩ := ob1 h41
        clear h41
        refine g_si F (cX6_isLane_ok l d cy i4 r10 k11) cal_X6_isLane t_1062 rfl ⟨by decide, by decide⟩ hw (w' := wM cy m0 m1 m2 m3 m4 m5 m6 m7 m8 m9 m10 m_now m_tape m_typed m_place m_isFault m_readWet m_readHarvest m_read m_undone m_undos m_bestGain m_aside m_kept m_keptUndos m_isKept m_lanes m_sizes m_items m_moved) Cut.nil hl.1 (Nat.le_of_ble_eq_true rfl) rfl dX6_film_29 (fun H locs hw => ?_)
        refine lv_if_ne (tgt := 37) hx hb dX6_film_32 (by decide) (fun c12 => ?_) (fun c12 => ?_)
        · rw [if_neg c12] at h42
          refine lv_aload_n hx hb dX6_film_37 rfl (lv_at hl 0 rfl) ?_
          refine lv_iload_n hx hb dX6_film_38 rfl (lv_at hl 3 rfl) ?_
          refine lv_iload hx hb dX6_film_39 (lv_at hl 4 rfl) ?_
          refine lv_iload hx hb dX6_film_41 (lv_at hl 5 rfl) ?_
          refine lv_iload_n hx hb dX6_film_43 rfl (lv_at hl 2 rfl) ?_
          obtain ⟨r13, k14, h43⟩ := ob1 h42
          clear h42
          refine g_vi F (cX6_why_ok l d cy m0 m1 m2 m3 m4 m5 m6 m7 m8 m9 m10 m_now m_tape m_typed m_place m_isFault m_readWet m_readHarvest m_read m_undone m_undos m_bestGain m_aside m_kept m_keptUndos m_isKept m_lanes m_sizes m_items m_moved i3 i4 i5 i2 r13 k14) cal_X6_why t_1065 rfl ⟨by decide, by decide⟩ hw (w' := wM cy m0 m1 m2 m3 m4 m5 m6 m7 m8 m9 m10 m_now m_tape m_typed m_place m_isFault m_readWet m_readHarvest m_read m_undone m_undos m_bestGain m_aside m_kept m_keptUndos m_isKept m_lanes m_sizes m_items m_moved) Cut.all 0 6 rfl rfl hl.1 (Nat.le_of_ble_eq_true rfl) rfl dX6_film_44 (fun H locs hw => ?_)
          refine lv_istore (lv' := [(6, .int r13), (0, .ref m0), (1, .int i1), (2, .int i2), (3, .int i3), (4, .int i4), (5, .int i5)]) hx hb dX6_film_47 hl (by decide) rfl (fun ls hl => ?_)
          refine lv_iload hx hb dX6_film_49 (lv_at hl 0 rfl) ?_
          refine lv_if_ge (tgt := 57) hx hb dX6_film_51 (by decide) (fun c15 => ?_) (fun c15 => ?_)
          · rw [if_pos c15] at h43
            refine lv_iconst (v := 0) hx hb dX6_film_57 (by decide) ?_
            refine lv_istore (lv' := [(7, .int 0), (6, .int r13), (0, .ref m0), (1, .int i1), (2, .int i2), (3, .int i3), (4, .int i4), (5, .int i5)]) hx hb dX6_film_58 hl (by decide) rfl (fun ls hl => ?_)
            obtain ⟨q33, h44, h45⟩ := ob1 h43
            clear h43
            have kont30 : ∀ (H : Heap) (locs : List Loc) (ls : Array Slot), Wd d A s.heap (wM cy m0 m1 m2 m3 m4 m5 m6 m7 m8 m9 m10 m_now m_tape m_typed m_place m_isFault m_readWet m_readHarvest m_read m_undone m_undos m_bestGain m_aside m_kept m_keptUndos m_isKept m_lanes m_sizes q33 m_moved) H locs → lv_has ls 8 [(2, .int i2)] → W p l e (rmo 4 93) s m args below meth c H locs 0 0 Q (F0 m 95 ls []) := by
              intro H locs ls hw hl
              clear h44
              refine lv_iload_n hx hb dX6_film_95 rfl (lv_at hl 0 rfl) ?_
              obtain ⟨rfl, rfl⟩ := inj2 h45
              exact hret _ _ _ _ hw dX6_film_96
            clear h45
            have loop32 : ∀ (n : Nat) (v28 : Int32) (g29 : Nat → Int64) (H : Heap) (locs : List Loc) (ls : Array Slot), Wd d A s.heap (wM cy m0 m1 m2 m3 m4 m5 m6 m7 m8 m9 m10 m_now m_tape m_typed m_place m_isFault m_readWet m_readHarvest m_read m_undone m_undos m_bestGain m_aside m_kept m_keptUndos m_isKept m_lanes m_sizes g29 m_moved) H locs → lv_has ls 8 [(0, .ref m0), (1, .int i1), (2, .int i2), (3, .int i3), (5, .int i5), (7, .int v28)] → fX6_film_L60 i1 i2 i3 i5 m_now n v28 g29 = some (q33) → W p l e (rmo 4 93) s m args below meth c H locs 0 0 Q (F0 m 60 ls []) := by
              intro n
              induction n with
              | zero =>
                intro v28 g29 H locs ls hw hl h46
                rw [fX6_film_L60] at h46
                cases h46
              | succ n ih31 =>
                intro v28 g29 H locs ls hw hl h47
                rw [fX6_film_L60] at h47
                refine lv_iload hx hb dX6_film_60 (lv_at hl 5 rfl) ?_
                refine lv_iload_n hx hb dX6_film_62 rfl (lv_at hl 2 rfl) ?_
                refine lv_icmp_ge (tgt := 95) hx hb dX6_film_63 (by decide) (fun c34 => ?_) (fun c34 => ?_)
                · rw [if_pos c34] at h47
                  obtain rfl := inj1 h47
                  exact kont30 _ _ _ hw (lv_sub hl [2] rfl)
                · rw [if_neg c34] at h47
                  refine lv_aload_n hx hb dX6_film_66 rfl (lv_at hl 0 rfl) ?_
                  refine g_get F inG6 hw 0 rfl rfl 17 (by decide) t_747 (fun _ h9 => h9) rfl dX6_film_67 ?_
                  refine lv_bipush (v := 24) hx hb dX6_film_70 (by decide) ?_
                  refine lv_iload_n hx hb dX6_film_72 rfl (lv_at hl 3 rfl) ?_
                  refine lv_imul hx hb dX6_film_73 ?_
                  refine lv_iload hx hb dX6_film_74 (lv_at hl 4 rfl) ?_
                  refine lv_iadd hx hb dX6_film_76 ?_
                  refine lv_iload hx hb dX6_film_77 (lv_at hl 5 rfl) ?_
                  refine lv_iadd hx hb dX6_film_79 ?_
                  refine lv_aload_n hx hb dX6_film_80 rfl (lv_at hl 0 rfl) ?_
                  refine lv_iload_n hx hb dX6_film_81 rfl (lv_at hl 1 rfl) ?_
                  refine lv_iload hx hb dX6_film_82 (lv_at hl 5 rfl) ?_
                  obtain ⟨r35, k36, h48⟩ := ob1 h47
                  clear h47
                  refine g_vi F (cX6_worthOf_ok l d cy m0 m1 m2 m3 m4 m5 m6 m7 m8 m9 m10 m_now m_tape m_typed m_place m_isFault m_readWet m_readHarvest m_read m_undone m_undos m_bestGain m_aside m_kept m_keptUndos m_isKept m_lanes m_sizes g29 m_moved i1 v28 r35 k36) cal_X6_worthOf t_842 rfl ⟨by decide, by decide⟩ hw (w' := wM cy m0 m1 m2 m3 m4 m5 m6 m7 m8 m9 m10 m_now m_tape m_typed m_place m_isFault m_readWet m_readHarvest m_read m_undone m_undos m_bestGain m_aside m_kept m_keptUndos m_isKept m_lanes m_sizes g29 m_moved) Cut.all 0 6 rfl rfl hl.1 (Nat.le_of_ble_eq_true rfl) rfl dX6_film_84 (fun H locs hw => ?_)
                  refine lv_i2l hx hb dX6_film_87 rfl ?_
                  obtain ⟨j37, k38, h49⟩ := ob1 h48
                  clear h48
                  refine g_last F hw 9 rfl k38 dX6_film_88 (w' := wM cy m0 m1 m2 m3 m4 m5 m6 m7 m8 m9 m10 m_now m_tape m_typed m_place m_isFault m_readWet m_readHarvest m_read m_undone m_undos m_bestGain m_aside m_kept m_keptUndos m_isKept m_lanes m_sizes (vp_updL g29 j37 (Int32.toInt64 r35)) m_moved) rfl (fun H locs hw => ?_)
                  refine lv_iinc (v := (v28 + 1)) (lv' := [(7, .int (v28 + 1)), (0, .ref m0), (1, .int i1), (2, .int i2), (3, .int i3), (5, .int i5)]) hx hb dX6_film_89 hl (k := 5) rfl rfl (by decide) rfl (fun ls hl => ?_)
                  refine lv_goto (tgt := 60) hx hb dX6_film_92 (by decide) ?_
                  exact ih31 (v28 + 1) (vp_updL g29 j37 (Int32.toInt64 r35)) _ _ _ hw (lv_sub hl [1, 2, 3, 4, 5, 0] rfl) h49
            exact loop32 fl 0 m_items _ _ _ hw (lv_sub hl [2, 3, 4, 5, 7, 0] rfl) h44
          · rw [if_neg c15] at h43
            refine lv_iload hx hb dX6_film_54 (lv_at hl 0 rfl) ?_
            obtain ⟨rfl, rfl⟩ := inj2 h43
            exact hret _ _ _ _ hw dX6_film_56
        · rw [if_pos c12] at h42
          refine lv_iconst (v := (-1)) hx hb dX6_film_35 (by decide) ?_
          obtain ⟨rfl, rfl⟩ := inj2 h42
          exact hret _ _ _ _ hw dX6_film_36
