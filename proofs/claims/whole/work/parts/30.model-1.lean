theorem t_21 : (Cond.selects "SundayMarketModel" yX6_areThere yX6_areThere) ∈ gtbl := wd 21 (by decide +kernel) (by decide +kernel)
theorem t_23 : (Cond.selects "SundayMarketModel" yX6_areTwo yX6_areTwo) ∈ gtbl := wd 23 (by decide +kernel) (by decide +kernel)
theorem t_24 : (Cond.selects "SundayMarketModel" yX6_maySell yX6_maySell) ∈ gtbl := wd 24 (by decide +kernel) (by decide +kernel)
theorem t_25 : (Cond.selects "SundayMarketModel" yX6_notes yX6_notes) ∈ gtbl := wd 25 (by decide +kernel) (by decide +kernel)
theorem t_26 : (Cond.selects "SundayMarketModel" yX6_goes yX6_goes) ∈ gtbl := wd 26 (by decide +kernel) (by decide +kernel)
theorem t_28 : (Cond.selects "SundayMarketModel" yX6_trades yX6_trades) ∈ gtbl := wd 28 (by decide +kernel) (by decide +kernel)
theorem t_29 : (Cond.selects "SundayMarketModel" yX6_middleOf yX6_middleOf) ∈ gtbl := wd 29 (by decide +kernel) (by decide +kernel)
theorem t_30 : (Cond.selects "SundayMarketModel" yX6_gainOf yX6_gainOf) ∈ gtbl := wd 30 (by decide +kernel) (by decide +kernel)
theorem t_31 : (Cond.selects "SundayMarketModel" yX6_bestSale yX6_bestSale) ∈ gtbl := wd 31 (by decide +kernel) (by decide +kernel)
theorem t_740 : (Cond.fieldLink "SundayMarketModel" 191 "SundayMarketModel" "bestGain" "I") ∈ gtbl := wd 740 (by decide +kernel) (by decide +kernel)
theorem t_881 : (Cond.instanceMethod yX6_read) ∈ gtbl := wd 881 (by decide +kernel) (by decide +kernel)
theorem t_882 : (Cond.selects "SundayMarketModel" yX6_read yX6_read) ∈ gtbl := wd 882 (by decide +kernel) (by decide +kernel)
theorem t_883 : (Cond.code yX6_read prog_8_method_35_code 4 (some .int)) ∈ gtbl := wd 883 (by decide +kernel) (by decide +kernel)
theorem t_884 : (Cond.methodLink "SundayMarketModel" 139 yX6_readSundays) ∈ gtbl := wd 884 (by decide +kernel) (by decide +kernel)
theorem t_896 : (Cond.methodLink "SundayMarketModel" 142 yX6_readPeople) ∈ gtbl := wd 896 (by decide +kernel) (by decide +kernel)
theorem t_910 : (Cond.methodLink "SundayMarketModel" 145 yX6_areThere) ∈ gtbl := wd 910 (by decide +kernel) (by decide +kernel)
theorem t_912 : (Cond.instanceMethod yX6_areThere) ∈ gtbl := wd 912 (by decide +kernel) (by decide +kernel)
theorem t_913 : (Cond.code yX6_areThere prog_8_method_34_code 4 (some .boolean)) ∈ gtbl := wd 913 (by decide +kernel) (by decide +kernel)
theorem t_914 : (Cond.methodLink "SundayMarketModel" 148 yX6_gets) ∈ gtbl := wd 914 (by decide +kernel) (by decide +kernel)
theorem t_919 : (Cond.instanceMethod yX6_sell) ∈ gtbl := wd 919 (by decide +kernel) (by decide +kernel)
theorem t_920 : (Cond.selects "SundayMarketModel" yX6_sell yX6_sell) ∈ gtbl := wd 920 (by decide +kernel) (by decide +kernel)
theorem t_921 : (Cond.code yX6_sell prog_8_method_40_code 5 (some .int)) ∈ gtbl := wd 921 (by decide +kernel) (by decide +kernel)
theorem t_922 : (Cond.methodLink "SundayMarketModel" 154 yX6_areTwo) ∈ gtbl := wd 922 (by decide +kernel) (by decide +kernel)
theorem t_924 : (Cond.instanceMethod yX6_areTwo) ∈ gtbl := wd 924 (by decide +kernel) (by decide +kernel)
theorem t_925 : (Cond.code yX6_areTwo prog_8_method_39_code 3 (some .boolean)) ∈ gtbl := wd 925 (by decide +kernel) (by decide +kernel)
theorem t_926 : (Cond.constantLong "SundayMarketModel" 157 (99)) ∈ gtbl := wd 926 (by decide +kernel) (by decide +kernel)
theorem t_927 : (Cond.methodLink "SundayMarketModel" 159 yX6_maySell) ∈ gtbl := wd 927 (by decide +kernel) (by decide +kernel)
theorem t_929 : (Cond.instanceMethod yX6_maySell) ∈ gtbl := wd 929 (by decide +kernel) (by decide +kernel)
theorem t_930 : (Cond.code yX6_maySell prog_8_method_37_code 3 (some .boolean)) ∈ gtbl := wd 930 (by decide +kernel) (by decide +kernel)
theorem t_931 : (Cond.methodLink "SundayMarketModel" 151 yX6_many) ∈ gtbl := wd 931 (by decide +kernel) (by decide +kernel)
theorem t_934 : (Cond.methodLink "SundayMarketModel" 162 yX6_notes) ∈ gtbl := wd 934 (by decide +kernel) (by decide +kernel)
theorem t_936 : (Cond.instanceMethod yX6_notes) ∈ gtbl := wd 936 (by decide +kernel) (by decide +kernel)
theorem t_937 : (Cond.code yX6_notes prog_8_method_36_code 3 none) ∈ gtbl := wd 937 (by decide +kernel) (by decide +kernel)
theorem t_938 : (Cond.methodLink "SundayMarketModel" 165 yX6_goes) ∈ gtbl := wd 938 (by decide +kernel) (by decide +kernel)
theorem t_940 : (Cond.instanceMethod yX6_goes) ∈ gtbl := wd 940 (by decide +kernel) (by decide +kernel)
theorem t_941 : (Cond.code yX6_goes prog_8_method_38_code 4 none) ∈ gtbl := wd 941 (by decide +kernel) (by decide +kernel)
theorem t_942 : (Cond.methodLink "SundayMarketModel" 168 yX6_pays) ∈ gtbl := wd 942 (by decide +kernel) (by decide +kernel)
theorem t_947 : (Cond.instanceMethod yX6_seize) ∈ gtbl := wd 947 (by decide +kernel) (by decide +kernel)
theorem t_948 : (Cond.selects "SundayMarketModel" yX6_seize yX6_seize) ∈ gtbl := wd 948 (by decide +kernel) (by decide +kernel)
theorem t_949 : (Cond.code yX6_seize prog_8_method_41_code 5 (some .int)) ∈ gtbl := wd 949 (by decide +kernel) (by decide +kernel)
theorem t_951 : (Cond.instanceMethod yX6_give) ∈ gtbl := wd 951 (by decide +kernel) (by decide +kernel)
theorem t_952 : (Cond.selects "SundayMarketModel" yX6_give yX6_give) ∈ gtbl := wd 952 (by decide +kernel) (by decide +kernel)
theorem t_953 : (Cond.code yX6_give prog_8_method_42_code 4 (some .int)) ∈ gtbl := wd 953 (by decide +kernel) (by decide +kernel)
theorem t_955 : (Cond.instanceMethod yX6_make) ∈ gtbl := wd 955 (by decide +kernel) (by decide +kernel)
theorem t_956 : (Cond.selects "SundayMarketModel" yX6_make yX6_make) ∈ gtbl := wd 956 (by decide +kernel) (by decide +kernel)
theorem t_957 : (Cond.code yX6_make prog_8_method_43_code 4 (some .int)) ∈ gtbl := wd 957 (by decide +kernel) (by decide +kernel)
theorem t_959 : (Cond.instanceMethod yX6_drift) ∈ gtbl := wd 959 (by decide +kernel) (by decide +kernel)
theorem t_960 : (Cond.selects "SundayMarketModel" yX6_drift yX6_drift) ∈ gtbl := wd 960 (by decide +kernel) (by decide +kernel)
theorem t_961 : (Cond.code yX6_drift prog_8_method_46_code 3 (some .int)) ∈ gtbl := wd 961 (by decide +kernel) (by decide +kernel)
theorem t_962 : (Cond.constantLong "SundayMarketModel" 176 (40)) ∈ gtbl := wd 962 (by decide +kernel) (by decide +kernel)
theorem t_963 : (Cond.constantLong "SundayMarketModel" 178 (1103515245)) ∈ gtbl := wd 963 (by decide +kernel) (by decide +kernel)
theorem t_964 : (Cond.constantLong "SundayMarketModel" 180 (12345)) ∈ gtbl := wd 964 (by decide +kernel) (by decide +kernel)
theorem t_965 : (Cond.constantLong "SundayMarketModel" 182 (2147483647)) ∈ gtbl := wd 965 (by decide +kernel) (by decide +kernel)
theorem t_966 : (Cond.constant "SundayMarketModel" 184 (65536)) ∈ gtbl := wd 966 (by decide +kernel) (by decide +kernel)
theorem t_967 : (Cond.methodLink "SundayMarketModel" 185 yX6_trades) ∈ gtbl := wd 967 (by decide +kernel) (by decide +kernel)
theorem t_969 : (Cond.instanceMethod yX6_trades) ∈ gtbl := wd 969 (by decide +kernel) (by decide +kernel)
theorem t_970 : (Cond.code yX6_trades prog_8_method_45_code 5 none) ∈ gtbl := wd 970 (by decide +kernel) (by decide +kernel)
theorem t_971 : (Cond.methodLink "SundayMarketModel" 172 yX6_middleOf) ∈ gtbl := wd 971 (by decide +kernel) (by decide +kernel)
theorem t_973 : (Cond.instanceMethod yX6_middleOf) ∈ gtbl := wd 973 (by decide +kernel) (by decide +kernel)
theorem t_974 : (Cond.code yX6_middleOf prog_8_method_44_code 7 (some .int)) ∈ gtbl := wd 974 (by decide +kernel) (by decide +kernel)
theorem t_976 : (Cond.instanceMethod yX6_undo) ∈ gtbl := wd 976 (by decide +kernel) (by decide +kernel)
theorem t_977 : (Cond.selects "SundayMarketModel" yX6_undo yX6_undo) ∈ gtbl := wd 977 (by decide +kernel) (by decide +kernel)
theorem t_978 : (Cond.code yX6_undo prog_8_method_47_code 3 (some .int)) ∈ gtbl := wd 978 (by decide +kernel) (by decide +kernel)
theorem t_980 : (Cond.instanceMethod yX6_seed) ∈ gtbl := wd 980 (by decide +kernel) (by decide +kernel)
theorem t_981 : (Cond.selects "SundayMarketModel" yX6_seed yX6_seed) ∈ gtbl := wd 981 (by decide +kernel) (by decide +kernel)
theorem t_982 : (Cond.code yX6_seed prog_8_method_48_code 3 (some .int)) ∈ gtbl := wd 982 (by decide +kernel) (by decide +kernel)
theorem t_984 : (Cond.instanceMethod yX6_gain) ∈ gtbl := wd 984 (by decide +kernel) (by decide +kernel)
theorem t_985 : (Cond.selects "SundayMarketModel" yX6_gain yX6_gain) ∈ gtbl := wd 985 (by decide +kernel) (by decide +kernel)
theorem t_986 : (Cond.code yX6_gain prog_8_method_50_code 4 (some .int)) ∈ gtbl := wd 986 (by decide +kernel) (by decide +kernel)
theorem t_987 : (Cond.methodLink "SundayMarketModel" 188 yX6_gainOf) ∈ gtbl := wd 987 (by decide +kernel) (by decide +kernel)
theorem t_989 : (Cond.instanceMethod yX6_gainOf) ∈ gtbl := wd 989 (by decide +kernel) (by decide +kernel)
theorem t_990 : (Cond.code yX6_gainOf prog_8_method_49_code 6 (some .int)) ∈ gtbl := wd 990 (by decide +kernel) (by decide +kernel)
theorem t_992 : (Cond.instanceMethod yX6_middle) ∈ gtbl := wd 992 (by decide +kernel) (by decide +kernel)
theorem t_993 : (Cond.selects "SundayMarketModel" yX6_middle yX6_middle) ∈ gtbl := wd 993 (by decide +kernel) (by decide +kernel)
theorem t_994 : (Cond.code yX6_middle prog_8_method_51_code 4 (some .int)) ∈ gtbl := wd 994 (by decide +kernel) (by decide +kernel)
theorem t_1001 : (Cond.instanceMethod yX6_bestSale) ∈ gtbl := wd 1001 (by decide +kernel) (by decide +kernel)
theorem t_1002 : (Cond.code yX6_bestSale prog_8_method_52_code 6 (some .int)) ∈ gtbl := wd 1002 (by decide +kernel) (by decide +kernel)
def fX6_areThere_L4 (i1 : Int32) (m_read : Nat → Int32) : Nat → Int32 → Int32 → Option (Int32)
  | 0, _, _ => none
  | n + 1, v25, v26 =>
    if i1 ≤ v26 then
      some (v25)
    else
      bd1 (if v25 = 0 then
          some (0)
        else
          bd1 (ix ((5 * v26) + 1) 30) fun j39 =>
          if i1 ≤ (m_read j39) then
            some (0)
          else
            some (1)
        : Option Int32) fun x36 =>
      fX6_areThere_L4 i1 m_read n x36 (v26 + 1)
def fX6_areThere (m_read : Nat → Int32) (i1 : Int32) : Option (Int32) :=
  bd1 (fX6_areThere_L4 i1 m_read fl 1 0) fun o30 =>
  bd0 (isb o30) <|
  some (o30)
def fX6_read_L183 (f25 : Nat → Int32) (v140 : Int32) : Nat → Int32 → (Nat → Int32) → Option ((Nat → Int32))
  | 0, _, _ => none
  | n + 1, v174, g175 =>
    if 12 ≤ v174 then
      some (g175)
    else
      bd1 (ix ((5 * v140) + 4) 30) fun j181 =>
      bd1 (ix ((5 * v140) + 3) 30) fun j183 =>
      bd1 (fX6_gets g175 v140 v174 ((((f25 j181) >>> (v174 &&& 31)) &&& 1) - (((f25 j183) >>> (v174 &&& 31)) &&& 1))) fun f185 =>
      fX6_read_L183 f25 v140 n (v174 + 1) f185
def fX6_read_L144 (r22 : Int32) (f25 : Nat → Int32) : Nat → Int32 → (Nat → Int32) → Int32 → Option ((Nat → Int32) × Int32)
  | 0, _, _, _ => none
  | n + 1, v140, g141, v142 =>
    if r22 ≤ v140 then
      some (g141, v142)
    else
      bd1 (ix (5 * v140) 30) fun j149 =>
      bd1 (ix ((5 * v140) + 1) 30) fun j151 =>
      bd1 (ix ((5 * v140) + 2) 30) fun j153 =>
      bd2 (fX6_personComes g141 (f25 j149) (f25 j151) (f25 j153)) fun f155 x156 =>
      bd1 (fX6_read_L183 f25 v140 fl 0 f155) fun q179 =>
      fX6_read_L144 r22 f25 n (v140 + 1) q179 x156
def fX6_read (m_now : Nat → Int32) (m_tape : Nat → Int32) (m_typed : Int32) (m_read : Nat → Int32) (m_undos : Int32) : Option (Int32 × (Nat → Int32) × Int32 × Int32 × Int32 × Int32 × Int32 × (Nat → Int32) × Int32) :=
  bd4 (fX6_readSundays m_tape m_typed 0 0) fun x1 x2 x3 x4 =>
  bd2 (if x2 = 0 then
      bd2 (fX6_here m_tape m_typed x1) fun r15 x16 =>
      if r15 = 59 then
        some (x16, 1)
      else
        some (x16, 0)
    else
      some (x1, 0)
    : Option (Int32 × Int32)) fun x11 x12 =>
  bd2 (fX6_must x11 x2 x12) fun x19 x20 =>
  bd4 (fX6_readPeople m_tape m_typed x19 x20 m_read) fun r22 x23 x24 f25 =>
  bd2 (if x24 = 0 then
      bd2 (fX6_here m_tape m_typed x23) fun r36 x37 =>
      if r36 = 0 then
        some (x37, 0)
      else
        some (x37, 1)
    else
      some (x23, 1)
    : Option (Int32 × Int32)) fun x32 x33 =>
  bd0 (isb x33) <|
  bd2 (if x33 = 0 then
      bd1 (fX6_areThere f25 r22) fun r49 =>
      if r49 = 0 then
        some (m_typed, 1)
      else
        some (x32, x33)
    else
      some (x32, x33)
    : Option (Int32 × Int32)) fun x45 x46 =>
  if x46 = 0 then
    bd1 (ix 0 95) fun j53 =>
    bd1 (ix 2 95) fun j55 =>
    bd1 (ix 3 95) fun j57 =>
    bd2 (fX6_read_L144 r22 f25 fl 0 (upd (upd (upd m_now j53 0) j55 x3) j57 x4) m_undos) fun q146 o147 =>
    some (r22, q146, 0, x45, x46, x3, x4, f25, o147)
  else
    some (((-20) - x45), m_now, 0, x45, x46, x3, x4, f25, m_undos)
def fX6_notes_L12  : Nat → Int32 → (Nat → Int32) → Option ((Nat → Int32))
  | 0, _, _ => none
  | n + 1, v41, g42 =>
    if 648 ≤ v41 then
      some (g42)
    else
      bd1 (ix v41 648) fun j48 =>
      bd1 (ix (v41 - 81) 648) fun j50 =>
      fX6_notes_L12 n (v41 + 1) (upd g42 j50 (g42 j48))
def fX6_notes_L115 (m_now : Nat → Int32) (x26 : Int32) : Nat → Int32 → (Nat → Int32) → Option ((Nat → Int32))
  | 0, _, _ => none
  | n + 1, v110, g111 =>
    if 72 ≤ v110 then
      some (g111)
    else
      bd1 (ix (23 + v110) 95) fun j117 =>
      bd1 (ix (((81 * x26) + 9) + v110) 648) fun j119 =>
      fX6_notes_L115 m_now x26 n (v110 + 1) (upd g111 j119 (m_now j117))
def fX6_notes_L85 (m_now : Nat → Int32) (x26 : Int32) : Nat → Int32 → (Nat → Int32) → Option ((Nat → Int32))
  | 0, _, _ => none
  | n + 1, v87, g88 =>
    if 6 ≤ v87 then
      some (g88)
    else
      bd1 (fX6_ofPerson m_now v87 2) fun r94 =>
      bd1 (ix (((81 * x26) + 3) + v87) 648) fun j96 =>
      fX6_notes_L85 m_now x26 n (v87 + 1) (upd g88 j96 r94)
def fX6_notes_L56 (m_now : Nat → Int32) (x26 : Int32) : Nat → Int32 → (Nat → Int32) → Option ((Nat → Int32))
  | 0, _, _ => none
  | n + 1, v64, g65 =>
    if 3 ≤ v64 then
      some (g65)
    else
      bd1 (ix (2 + v64) 95) fun j71 =>
      bd1 (ix ((81 * x26) + v64) 648) fun j73 =>
      fX6_notes_L56 m_now x26 n (v64 + 1) (upd g65 j73 (m_now j71))
def fX6_notes (m_now : Nat → Int32) (m_undone : Nat → Int32) (m_undos : Int32) : Option ((Nat → Int32) × Int32) :=
  bd2 (if m_undos = 8 then
      bd1 (fX6_notes_L12 fl 81 m_undone) fun q46 =>
      some (q46, 7)
    else
      some (m_undone, m_undos)
    : Option ((Nat → Int32) × Int32)) fun f25 x26 =>
  bd1 (fX6_notes_L56 m_now x26 fl 0 f25) fun q69 =>
  bd1 (fX6_notes_L85 m_now x26 fl 0 q69) fun q92 =>
  bd1 (fX6_notes_L115 m_now x26 fl 0 q92) fun q115 =>
  some (q115, (x26 + 1))
def fX6_maySell (m_now : Nat → Int32) (i1 : Int32) (i2 : Int32) : Option (Int32) :=
  bd1 (fX6_hasOne m_now i1 i2) fun r1 =>
  if r1 = 0 then
    some (0)
  else
    bd1 (fX6_halves m_now i1) fun r4 =>
    bd1 (fX6_many r4) fun r6 =>
    bd1 (ix 1 95) fun j8 =>
    if (m_now j8) < r6 then
      some (1)
    else
      bd1 (fX6_manyOf m_now i1 i2) fun r11 =>
      if r11 ≤ 1 then
        some (0)
      else
        some (1)
def fX6_goes (m_now : Nat → Int32) (i1 : Int32) (i2 : Int32) (i3 : Int32) : Option ((Nat → Int32)) :=
  bd1 (fX6_gets m_now i1 i3 (-1)) fun f1 =>
  bd1 (fX6_gets f1 i2 i3 1) fun f3 =>
  some (f3)
def fX6_areTwo (m_now : Nat → Int32) (i1 : Int32) (i2 : Int32) : Option (Int32) :=
  bd1 (fX6_isPerson m_now i1) fun r1 =>
  if r1 = 0 then
    some (0)
  else
    bd1 (fX6_isPerson m_now i2) fun r4 =>
    if r4 = 0 then
      some (0)
    else
      if i1 = i2 then
        some (0)
      else
        some (1)
def fX6_sell (m_now : Nat → Int32) (m_undone : Nat → Int32) (m_undos : Int32) (i1 : Int32) (i2 : Int32) (i3 : Int32) (i4 : Int32) : Option (Int32 × (Nat → Int32) × (Nat → Int32) × Int32) :=
  bd1 (fX6_areTwo m_now i1 i2) fun r1 =>
  if r1 = 0 then
    some ((-1), m_now, m_undone, m_undos)
  else
    bd1 (fX6_isHalf i3) fun r4 =>
    if r4 = 0 then
      some ((-1), m_now, m_undone, m_undos)
    else
      bd1 (fX6_in (Int32.toInt64 i4) 0 99) fun r7 =>
      if r7 = 0 then
        some ((-1), m_now, m_undone, m_undos)
      else
        bd1 (fX6_maySell m_now i1 i3) fun r10 =>
        if r10 = 0 then
          some ((-2), m_now, m_undone, m_undos)
        else
          bd1 (fX6_ofPerson m_now i2 2) fun r13 =>
          if i4 ≤ r13 then
            bd2 (fX6_notes m_now m_undone m_undos) fun f16 x17 =>
            bd1 (fX6_goes m_now i1 i2 i3) fun f19 =>
            bd1 (fX6_pays f19 i2 i4) fun f21 =>
            bd1 (fX6_pays f21 i1 (-i4)) fun f23 =>
            bd1 (fX6_ofPerson f23 i1 2) fun r25 =>
            some (r25, f23, f16, x17)
          else
            some ((-2), m_now, m_undone, m_undos)
def fX6_seize_L17 (i1 : Int32) (m_now : Nat → Int32) : Nat → Int32 → Int32 → Option (Int32)
  | 0, _, _ => none
  | n + 1, v44, v45 =>
    if 12 ≤ v45 then
      some (v44)
    else
      bd1 (fX6_hasOne m_now i1 v45) fun r51 =>
      bd1 (if r51 = 0 then
          some (v44)
        else
          if v44 = (-4) then
            some (v45)
          else
            bd1 (fX6_worthOf m_now i1 v45) fun r64 =>
            bd1 (fX6_worthOf m_now i1 v44) fun r66 =>
            if r64 ≤ r66 then
              some (v44)
            else
              some (v45)
        : Option Int32) fun x60 =>
      fX6_seize_L17 i1 m_now n x60 (v45 + 1)
def fX6_seize (m_now : Nat → Int32) (m_undone : Nat → Int32) (m_undos : Int32) (i1 : Int32) (i2 : Int32) : Option (Int32 × (Nat → Int32) × (Nat → Int32) × Int32) :=
  bd1 (fX6_areTwo m_now i1 i2) fun r1 =>
  if r1 = 0 then
    some ((-1), m_now, m_undone, m_undos)
  else
    bd1 (fX6_seize_L17 i1 m_now fl (-4) 0) fun o49 =>
    if o49 = (-4) then
      some ((-2), m_now, m_undone, m_undos)
    else
      bd2 (fX6_notes m_now m_undone m_undos) fun f70 x71 =>
      bd1 (fX6_goes m_now i1 i2 o49) fun f73 =>
      some (o49, f73, f70, x71)
def fX6_give (m_now : Nat → Int32) (m_undone : Nat → Int32) (m_undos : Int32) (i1 : Int32) (i2 : Int32) (i3 : Int32) : Option (Int32 × (Nat → Int32) × (Nat → Int32) × Int32) :=
  bd1 (fX6_areTwo m_now i1 i2) fun r1 =>
  if r1 = 0 then
    some ((-1), m_now, m_undone, m_undos)
  else
    bd1 (fX6_in (Int32.toInt64 i3) 1 99) fun r4 =>
    if r4 = 0 then
      some ((-1), m_now, m_undone, m_undos)
    else
      bd1 (fX6_ofPerson m_now i1 2) fun r7 =>
      if i3 ≤ r7 then
        bd2 (fX6_notes m_now m_undone m_undos) fun f10 x11 =>
        bd1 (fX6_pays m_now i1 i3) fun f13 =>
        bd1 (fX6_pays f13 i2 (-i3)) fun f15 =>
        bd1 (fX6_ofPerson f15 i1 2) fun r17 =>
        some (r17, f15, f10, x11)
      else
        some ((-2), m_now, m_undone, m_undos)
def fX6_make (m_now : Nat → Int32) (m_undone : Nat → Int32) (m_undos : Int32) (i1 : Int32) (i2 : Int32) (i3 : Int32) : Option (Int32 × (Nat → Int32) × (Nat → Int32) × Int32) :=
  bd1 (fX6_in (Int32.toInt64 i1) 0 5) fun r1 =>
  if r1 = 0 then
    some ((-1), m_now, m_undone, m_undos)
  else
    bd1 (fX6_in (Int32.toInt64 i2) 0 1) fun r4 =>
    if r4 = 0 then
      some ((-1), m_now, m_undone, m_undos)
    else
      bd1 (fX6_in (Int32.toInt64 i3) 0 1) fun r7 =>
      if r7 = 0 then
        some ((-1), m_now, m_undone, m_undos)
      else
        bd1 (ix (2 + i2) 95) fun j10 =>
        if (((m_now j10) >>> (i1 &&& 31)) &&& 1) = i3 then
          some ((-2), m_now, m_undone, m_undos)
        else
          bd2 (fX6_notes m_now m_undone m_undos) fun f13 x14 =>
          some (((upd m_now j10 ((m_now j10) ^^^ ((1 : Int32) <<< (i1 &&& 31)))) j10), (upd m_now j10 ((m_now j10) ^^^ ((1 : Int32) <<< (i1 &&& 31)))), f13, x14)
def fX6_middleOf (m_now : Nat → Int32) (i1 : Int32) (i2 : Int32) (i3 : Int32) : Option (Int32 × (Nat → Int32)) :=
  bd1 (fX6_worth m_now i1) fun r1 =>
  bd1 (fX6_worth m_now i2) fun r3 =>
  bd1 (fX6_goes m_now i1 i2 i3) fun f5 =>
  bd1 (fX6_worth f5 i1) fun r7 =>
  bd1 (fX6_worth f5 i2) fun r9 =>
  bd1 (fX6_goes f5 i2 i1 i3) fun f11 =>
  if 0 ≤ ((((r1 - r7) + r9) - r3) / 2) then
    some (((((r1 - r7) + r9) - r3) / 2), f11)
  else
    some (0, f11)
def fX6_trades (m_now : Nat → Int32) (i1 : Int32) (i2 : Int32) (i3 : Int32) : Option ((Nat → Int32)) :=
  if i1 = i2 then
    some (m_now)
  else
    bd1 (fX6_maySell m_now i1 i3) fun r2 =>
    if r2 = 0 then
      some (m_now)
    else
      bd2 (fX6_middleOf m_now i1 i2 i3) fun r5 f6 =>
      bd1 (fX6_ofPerson f6 i2 2) fun r8 =>
      if r8 < r5 then
        some (f6)
      else
        bd1 (fX6_goes f6 i1 i2 i3) fun f11 =>
        bd1 (fX6_pays f11 i2 r5) fun f13 =>
        bd1 (fX6_pays f13 i1 (-r5)) fun f15 =>
        some (f15)
def fX6_drift_L16 (i1 : Int32) : Nat → Int32 → (Nat → Int32) → (Nat → Int32) → Int32 → Option ((Nat → Int32) × (Nat → Int32) × Int32)
  | 0, _, _, _, _ => none
  | n + 1, v48, g49, g50, v51 =>
    if i1 ≤ v48 then
      some (g49, g50, v51)
    else
      bd2 (fX6_notes g49 g50 v51) fun f59 x60 =>
      bd1 (ix 4 95) fun j62 =>
      bd1 (ix 0 95) fun j64 =>
      bd1 (if ((upd g49 j62 (Int64.toInt32 ((((Int32.toInt64 (g49 j62)) * 1103515245) + 12345) &&& 2147483647))) j64) ≤ 0 then
          some ((upd g49 j62 (Int64.toInt32 ((((Int32.toInt64 (g49 j62)) * 1103515245) + 12345) &&& 2147483647))))
        else
          bd0 (nz ((upd g49 j62 (Int64.toInt32 ((((Int32.toInt64 (g49 j62)) * 1103515245) + 12345) &&& 2147483647))) j64)) <|
          bd0 (nz ((upd g49 j62 (Int64.toInt32 ((((Int32.toInt64 (g49 j62)) * 1103515245) + 12345) &&& 2147483647))) j64)) <|
          bd1 (fX6_trades (upd g49 j62 (Int64.toInt32 ((((Int32.toInt64 (g49 j62)) * 1103515245) + 12345) &&& 2147483647))) ((((upd g49 j62 (Int64.toInt32 ((((Int32.toInt64 (g49 j62)) * 1103515245) + 12345) &&& 2147483647))) j62) / 65536) - (((upd g49 j62 (Int64.toInt32 ((((Int32.toInt64 (g49 j62)) * 1103515245) + 12345) &&& 2147483647))) j62) / 65536) / ((upd g49 j62 (Int64.toInt32 ((((Int32.toInt64 (g49 j62)) * 1103515245) + 12345) &&& 2147483647))) j64) * ((upd g49 j62 (Int64.toInt32 ((((Int32.toInt64 (g49 j62)) * 1103515245) + 12345) &&& 2147483647))) j64)) ((((upd g49 j62 (Int64.toInt32 ((((Int32.toInt64 (g49 j62)) * 1103515245) + 12345) &&& 2147483647))) j62) / 1024) - (((upd g49 j62 (Int64.toInt32 ((((Int32.toInt64 (g49 j62)) * 1103515245) + 12345) &&& 2147483647))) j62) / 1024) / ((upd g49 j62 (Int64.toInt32 ((((Int32.toInt64 (g49 j62)) * 1103515245) + 12345) &&& 2147483647))) j64) * ((upd g49 j62 (Int64.toInt32 ((((Int32.toInt64 (g49 j62)) * 1103515245) + 12345) &&& 2147483647))) j64)) ((((upd g49 j62 (Int64.toInt32 ((((Int32.toInt64 (g49 j62)) * 1103515245) + 12345) &&& 2147483647))) j62) / 128) - (((upd g49 j62 (Int64.toInt32 ((((Int32.toInt64 (g49 j62)) * 1103515245) + 12345) &&& 2147483647))) j62) / 128) / 12 * 12)) fun f76 =>
          some (f76)
        : Option ((Nat → Int32))) fun f71 =>
      fX6_drift_L16 i1 n (v48 + 1) f71 f59 x60
def fX6_drift (m_now : Nat → Int32) (m_undone : Nat → Int32) (m_undos : Int32) (i1 : Int32) : Option (Int32 × (Nat → Int32) × (Nat → Int32) × Int32) :=
  bd1 (fX6_in (Int32.toInt64 i1) 1 40) fun r1 =>
  if r1 = 0 then
    some ((-1), m_now, m_undone, m_undos)
  else
    bd3 (fX6_drift_L16 i1 fl 0 m_now m_undone m_undos) fun q55 q56 o57 =>
    bd1 (fX6_worthAll q55) fun r78 =>
    some (r78, q55, q56, o57)
def fX6_undo_L95 (m_undone : Nat → Int32) (m_undos : Int32) : Nat → Int32 → (Nat → Int32) → Option ((Nat → Int32))
  | 0, _, _ => none
  | n + 1, v60, g61 =>
    if 72 ≤ v60 then
      some (g61)
    else
      bd1 (ix (((81 * (m_undos - 1)) + 9) + v60) 648) fun j67 =>
      bd1 (ix (23 + v60) 95) fun j69 =>
      fX6_undo_L95 m_undone m_undos n (v60 + 1) (upd g61 j69 (m_undone j67))
def fX6_undo_L59 (m_undone : Nat → Int32) (m_undos : Int32) : Nat → Int32 → (Nat → Int32) → Option ((Nat → Int32))
  | 0, _, _ => none
  | n + 1, v37, g38 =>
    if 6 ≤ v37 then
      some (g38)
    else
      bd1 (ix (((81 * (m_undos - 1)) + 3) + v37) 648) fun j44 =>
      bd1 (ix ((5 + (3 * v37)) + 2) 95) fun j46 =>
      fX6_undo_L59 m_undone m_undos n (v37 + 1) (upd g38 j46 (m_undone j44))
def fX6_undo_L30 (m_undone : Nat → Int32) (m_undos : Int32) : Nat → Int32 → (Nat → Int32) → Option ((Nat → Int32))
  | 0, _, _ => none
  | n + 1, v14, g15 =>
    if 3 ≤ v14 then
      some (g15)
    else
      bd1 (ix ((81 * (m_undos - 1)) + v14) 648) fun j21 =>
      bd1 (ix (2 + v14) 95) fun j23 =>
      fX6_undo_L30 m_undone m_undos n (v14 + 1) (upd g15 j23 (m_undone j21))
def fX6_undo (m_now : Nat → Int32) (m_undone : Nat → Int32) (m_undos : Int32) : Option (Int32 × (Nat → Int32) × Int32) :=
  if m_undos = 0 then
    some ((-4), m_now, m_undos)
  else
    bd1 (fX6_undo_L30 m_undone m_undos fl 0 m_now) fun q19 =>
    bd1 (fX6_undo_L59 m_undone m_undos fl 0 q19) fun q42 =>
    bd1 (fX6_undo_L95 m_undone m_undos fl 0 q42) fun q65 =>
    some ((m_undos - 1), q65, (m_undos - 1))
def fX6_seed (m_now : Nat → Int32) (i1 : Int32) : Option (Int32 × (Nat → Int32)) :=
  if 0 ≤ i1 then
    bd1 (ix 4 95) fun j2 =>
    some ((m_now j2), (upd m_now j2 i1))
  else
    some ((-1), m_now)
def fX6_gainOf (m_now : Nat → Int32) (i1 : Int32) (i2 : Int32) (i3 : Int32) : Option (Int32 × (Nat → Int32)) :=
  bd1 (fX6_worthAll m_now) fun r1 =>
  bd1 (fX6_goes m_now i1 i2 i3) fun f3 =>
  bd1 (fX6_worthAll f3) fun r5 =>
  bd1 (fX6_goes f3 i2 i1 i3) fun f7 =>
  some ((r5 - r1), f7)
def fX6_gain (m_now : Nat → Int32) (i1 : Int32) (i2 : Int32) (i3 : Int32) : Option (Int32 × (Nat → Int32)) :=
  bd1 (fX6_areTwo m_now i1 i2) fun r1 =>
  if r1 = 0 then
    some ((-1), m_now)
  else
    bd1 (fX6_isHalf i3) fun r4 =>
    if r4 = 0 then
      some ((-1), m_now)
    else
      bd1 (fX6_hasOne m_now i1 i3) fun r7 =>
      if r7 = 0 then
        some ((-2), m_now)
      else
        bd2 (fX6_gainOf m_now i1 i2 i3) fun r10 f11 =>
        some ((1000 + r10), f11)
def fX6_middle (m_now : Nat → Int32) (i1 : Int32) (i2 : Int32) (i3 : Int32) : Option (Int32 × (Nat → Int32)) :=
  bd1 (fX6_areTwo m_now i1 i2) fun r1 =>
  if r1 = 0 then
    some ((-1), m_now)
  else
    bd1 (fX6_isHalf i3) fun r4 =>
    if r4 = 0 then
      some ((-1), m_now)
    else
      bd1 (fX6_hasOne m_now i1 i3) fun r7 =>
      if r7 = 0 then
        some ((-2), m_now)
      else
        bd2 (fX6_middleOf m_now i1 i2 i3) fun r10 f11 =>
        some (r10, f11)
def fX6_bestSale_L35 (v610 : Int32) (v817 : Int32) : Nat → Int32 → Int32 → Int32 → (Nat → Int32) → Option ((Nat → Int32) × Int32 × Int32)
  | 0, _, _, _, _ => none
  | n + 1, v885, v886, v887, g888 =>
    if 12 ≤ v886 then
      some (g888, v887, v885)
    else
      bd2 (if v610 = v817 then
          some (g888, 0)
        else
          bd1 (fX6_maySell g888 v610 v886) fun r907 =>
          if r907 = 0 then
            some (g888, 0)
          else
            bd2 (fX6_gainOf g888 v610 v817 v886) fun r910 f911 =>
            some (f911, r910)
        : Option ((Nat → Int32) × Int32)) fun f903 x904 =>
      bd1 (if x904 ≤ v887 then
          some (v885)
        else
          some ((((1000 * v610) + (100 * v817)) + v886))
        : Option Int32) fun x914 =>
      bd1 (if x904 ≤ v887 then
          some (v887)
        else
          some (x904)
        : Option Int32) fun x918 =>
      fX6_bestSale_L35 v610 v817 n x914 (v886 + 1) x918 f903
def fX6_bestSale_L22 (v610 : Int32) : Nat → Int32 → Int32 → Int32 → (Nat → Int32) → Option ((Nat → Int32) × Int32 × Int32)
  | 0, _, _, _, _ => none
  | n + 1, v816, v817, v818, g819 =>
    bd1 (ix 0 95) fun j826 =>
    if (g819 j826) ≤ v817 then
      some (g819, v818, v816)
    else
      bd3 (fX6_bestSale_L35 v610 v817 fl v816 0 v818 g819) fun q892 o893 o894 =>
      fX6_bestSale_L22 v610 n o894 (v817 + 1) o893 q892
def fX6_bestSale_L10  : Nat → Int32 → Int32 → Int32 → (Nat → Int32) → Option ((Nat → Int32) × Int32 × Int32)
  | 0, _, _, _, _ => none
  | n + 1, v609, v610, v611, g612 =>
    bd1 (ix 0 95) fun j619 =>
    if (g612 j619) ≤ v610 then
      some (g612, v611, v609)
    else
      bd3 (fX6_bestSale_L22 v610 fl v609 0 v611 g612) fun q823 o824 o825 =>
      fX6_bestSale_L10 n o825 (v610 + 1) o824 q823
def fX6_bestSale (m_now : Nat → Int32) : Option (Int32 × (Nat → Int32) × Int32) :=
  bd3 (fX6_bestSale_L10 fl (-4) 0 0 m_now) fun q616 o617 o618 =>
  some (o618, q616, o617)
theorem cal_X6_areThere : CalV yX6_areThere cX6_areThere 4 (some .boolean) RX6 1 := ⟨t_913, t_912, t_21, t_43, by decide +kernel⟩
set_option maxHeartbeats 4000000 in
set_option maxRecDepth 100000 in
theorem cX6_areThere_ok (l : Launch) (d : va_G) (cy : Nat → ClassId) (m0 m1 m2 m3 m4 m5 m6 m7 m8 m9 m10 : Nat) (m_now : Nat → Int32) (m_tape : Nat → Int32) (m_typed : Int32) (m_place : Int32) (m_isFault : Int32) (m_readWet : Int32) (m_readHarvest : Int32) (m_read : Nat → Int32) (m_undone : Nat → Int32) (m_undos : Int32) (m_bestGain : Int32) (m_aside : Nat → Int32) (m_kept : Nat → Int32) (m_keptUndos : Int32) (m_isKept : Int32) (m_lanes : Nat → Int32) (m_sizes : Nat → Int32) (m_items : Nat → Int64) (m_moved : Nat → Int64) (i1 : Int32) (r : Int32) (h0 : fX6_areThere m_read i1 = some (r)) : CI l yX6_areThere cX6_areThere 4 (some .boolean) 0 0 d cy [.ref m0, .int i1] (wM cy m0 m1 m2 m3 m4 m5 m6 m7 m8 m9 m10 m_now m_tape m_typed m_place m_isFault m_readWet m_readHarvest m_read m_undone m_undos m_bestGain m_aside m_kept m_keptUndos m_isKept m_lanes m_sizes m_items m_moved) (wM cy m0 m1 m2 m3 m4 m5 m6 m7 m8 m9 m10 m_now m_tape m_typed m_place m_isFault m_readWet m_readHarvest m_read m_undone m_undos m_bestGain m_aside m_kept m_keptUndos m_isKept m_lanes m_sizes m_items m_moved) r := by
  refine CZ.of (by decide) (Nat.le_of_ble_eq_true rfl) ?_
  intro p e s m args below meth c A ls Q F hret hw hl
  have hx := F.1
  have hb := F.2.1
  have hl : lv_has ls 4 [(0, .ref m0), (1, .int i1)] := hl
  rw [fX6_areThere] at h0
  refine lv_iconst (v := 1) hx hb dX6_areThere_0 (by decide) ?_
  refine lv_istore_n (lv' := [(2, .int 1), (0, .ref m0), (1, .int i1)]) hx hb dX6_areThere_1 rfl hl (by decide) rfl (fun ls hl => ?_)
  refine lv_iconst (v := 0) hx hb dX6_areThere_2 (by decide) ?_
  refine lv_istore_n (lv' := [(3, .int 0), (2, .int 1), (0, .ref m0), (1, .int i1)]) hx hb dX6_areThere_3 rfl hl (by decide) rfl (fun ls hl => ?_)
  obtain ⟨o30, h43, h44⟩ := ob1 h0
  clear h0
  have kont27 : ∀ (H : Heap) (locs : List Loc) (ls : Array Slot), Wd d A s.heap (wM cy m0 m1 m2 m3 m4 m5 m6 m7 m8 m9 m10 m_now m_tape m_typed m_place m_isFault m_readWet m_readHarvest m_read m_undone m_undos m_bestGain m_aside m_kept m_keptUndos m_isKept m_lanes m_sizes m_items m_moved) H locs → lv_has ls 4 [(2, .int o30)] → W p l e (rmo 0 0) s m args below meth c H locs 0 0 Q (F0 m 39 ls []) := by
    intro H locs ls hw hl
    clear h43
    refine lv_iload_n hx hb dX6_areThere_39 rfl (lv_at hl 0 rfl) ?_
    obtain ⟨k42, h45⟩ := ob0 h44
    clear h44
    obtain rfl := inj1 h45
    exact hret _ _ _ _ (isb_nar k42) hw dX6_areThere_40
  clear h44
  have loop29 : ∀ (n : Nat) (v25 : Int32) (v26 : Int32) (H : Heap) (locs : List Loc) (ls : Array Slot), Wd d A s.heap (wM cy m0 m1 m2 m3 m4 m5 m6 m7 m8 m9 m10 m_now m_tape m_typed m_place m_isFault m_readWet m_readHarvest m_read m_undone m_undos m_bestGain m_aside m_kept m_keptUndos m_isKept m_lanes m_sizes m_items m_moved) H locs → lv_has ls 4 [(0, .ref m0), (1, .int i1), (2, .int v25), (3, .int v26)] → fX6_areThere_L4 i1 m_read n v25 v26 = some (o30) → W p l e (rmo 0 0) s m args below meth c H locs 0 0 Q (F0 m 4 ls []) := by
    intro n
    induction n with
    | zero =>
      intro v25 v26 H locs ls hw hl h46
      rw [fX6_areThere_L4] at h46
      cases h46
    | succ n ih28 =>
      intro v25 v26 H locs ls hw hl h47
      rw [fX6_areThere_L4] at h47
      refine lv_iload_n hx hb dX6_areThere_4 rfl (lv_at hl 3 rfl) ?_
      refine lv_iload_n hx hb dX6_areThere_5 rfl (lv_at hl 1 rfl) ?_
      refine lv_icmp_ge (tgt := 39) hx hb dX6_areThere_6 (by decide) (fun c31 => ?_) (fun c31 => ?_)
      · rw [if_pos c31] at h47
        obtain rfl := inj1 h47
        exact kont27 _ _ _ hw (lv_sub hl [2] rfl)
      · rw [if_neg c31] at h47
        refine lv_iload_n hx hb dX6_areThere_9 rfl (lv_at hl 2 rfl) ?_
        obtain ⟨x36, h48, h49⟩ := ob1 h47
        clear h47
        have kont37 : ∀ (H : Heap) (locs : List Loc) (ls : Array Slot), Wd d A s.heap (wM cy m0 m1 m2 m3 m4 m5 m6 m7 m8 m9 m10 m_now m_tape m_typed m_place m_isFault m_readWet m_readHarvest m_read m_undone m_undos m_bestGain m_aside m_kept m_keptUndos m_isKept m_lanes m_sizes m_items m_moved) H locs → lv_has ls 4 [(0, .ref m0), (1, .int i1), (3, .int v26)] → W p l e (rmo 0 0) s m args below meth c H locs 0 0 Q (F0 m 32 ls [.int x36]) := by
          intro H locs ls hw hl
          clear h48
          refine lv_istore_n (lv' := [(2, .int x36), (0, .ref m0), (1, .int i1), (3, .int v26)]) hx hb dX6_areThere_32 rfl hl (by decide) rfl (fun ls hl => ?_)
          refine lv_iinc (v := (v26 + 1)) (lv' := [(3, .int (v26 + 1)), (2, .int x36), (0, .ref m0), (1, .int i1)]) hx hb dX6_areThere_33 hl (k := 3) rfl rfl (by decide) rfl (fun ls hl => ?_)
          refine lv_goto (tgt := 4) hx hb dX6_areThere_36 (by decide) ?_
          exact ih28 x36 (v26 + 1) _ _ _ hw (lv_sub hl [2, 3, 1, 0] rfl) h49
        clear h49
        refine lv_if_eq (tgt := 31) hx hb dX6_areThere_10 (by decide) (fun c38 => ?_) (fun c38 => ?_)
        · rw [if_pos c38] at h48
          refine lv_iconst (v := 0) hx hb dX6_areThere_31 (by decide) ?_
          obtain rfl := inj1 h48
          exact kont37 _ _ _ hw (lv_sub hl [0, 1, 3] rfl)
        · rw [if_neg c38] at h48
          refine lv_aload_n hx hb dX6_areThere_13 rfl (lv_at hl 0 rfl) ?_
          refine g_get F inG6 hw 0 rfl rfl 7 (by decide) t_737 (fun _ h9 => h9) rfl dX6_areThere_14 ?_
          refine lv_iconst (v := 5) hx hb dX6_areThere_17 (by decide) ?_
          refine lv_iload_n hx hb dX6_areThere_18 rfl (lv_at hl 3 rfl) ?_
          refine lv_imul hx hb dX6_areThere_19 ?_
          refine lv_iconst (v := 1) hx hb dX6_areThere_20 (by decide) ?_
          refine lv_iadd hx hb dX6_areThere_21 ?_
          obtain ⟨j39, k40, h50⟩ := ob1 h48
          clear h48
          refine g_iald F hw 3 rfl k40 dX6_areThere_22 ?_
          refine lv_iload_n hx hb dX6_areThere_23 rfl (lv_at hl 1 rfl) ?_
          refine lv_icmp_ge (tgt := 31) hx hb dX6_areThere_24 (by decide) (fun c41 => ?_) (fun c41 => ?_)
          · rw [if_pos c41] at h50
            refine lv_iconst (v := 0) hx hb dX6_areThere_31 (by decide) ?_
            obtain rfl := inj1 h50
            exact kont37 _ _ _ hw (lv_sub hl [0, 1, 3] rfl)
          · rw [if_neg c41] at h50
            refine lv_iconst (v := 1) hx hb dX6_areThere_27 (by decide) ?_
            refine lv_goto (tgt := 32) hx hb dX6_areThere_28 (by decide) ?_
            obtain rfl := inj1 h50
            exact kont37 _ _ _ hw (lv_sub hl [0, 1, 3] rfl)
  exact loop29 fl 1 0 _ _ _ hw (lv_sub hl [2, 3, 1, 0] rfl) h43
theorem cal_X6_read : CalV yX6_read cX6_read 4 (some .int) RX6 0 := ⟨t_883, t_881, t_882, t_43, by decide +kernel⟩
set_option maxHeartbeats 4000000 in
set_option maxRecDepth 100000 in
theorem cX6_read_ok (l : Launch) (d : va_G) (cy : Nat → ClassId) (m0 m1 m2 m3 m4 m5 m6 m7 m8 m9 m10 : Nat) (m_now : Nat → Int32) (m_tape : Nat → Int32) (m_typed : Int32) (m_place : Int32) (m_isFault : Int32) (m_readWet : Int32) (m_readHarvest : Int32) (m_read : Nat → Int32) (m_undone : Nat → Int32) (m_undos : Int32) (m_bestGain : Int32) (m_aside : Nat → Int32) (m_kept : Nat → Int32) (m_keptUndos : Int32) (m_isKept : Int32) (m_lanes : Nat → Int32) (m_sizes : Nat → Int32) (m_items : Nat → Int64) (m_moved : Nat → Int64) (r : Int32) (m_now_r : Nat → Int32) (m_typed_r : Int32) (m_place_r : Int32) (m_isFault_r : Int32) (m_readWet_r : Int32) (m_readHarvest_r : Int32) (m_read_r : Nat → Int32) (m_undos_r : Int32) (h0 : fX6_read m_now m_tape m_typed m_read m_undos = some (r, m_now_r, m_typed_r, m_place_r, m_isFault_r, m_readWet_r, m_readHarvest_r, m_read_r, m_undos_r)) : CI l yX6_read cX6_read 4 (some .int) 4 95 d cy [.ref m0] (wM cy m0 m1 m2 m3 m4 m5 m6 m7 m8 m9 m10 m_now m_tape m_typed m_place m_isFault m_readWet m_readHarvest m_read m_undone m_undos m_bestGain m_aside m_kept m_keptUndos m_isKept m_lanes m_sizes m_items m_moved) (wM cy m0 m1 m2 m3 m4 m5 m6 m7 m8 m9 m10 m_now_r m_tape m_typed_r m_place_r m_isFault_r m_readWet_r m_readHarvest_r m_read_r m_undone m_undos_r m_bestGain m_aside m_kept m_keptUndos m_isKept m_lanes m_sizes m_items m_moved) r := by
  refine CI.of (by decide) (Nat.le_of_ble_eq_true rfl) ?_
  intro p e s m args below meth c A ls Q F hret hw hl
  have hx := F.1
  have hb := F.2.1
  have hl : lv_has ls 4 [(0, .ref m0)] := hl
  rw [fX6_read] at h0
  refine lv_aload_n hx hb dX6_read_0 rfl (lv_at hl 0 rfl) ?_
  refine lv_iconst (v := 0) hx hb dX6_read_1 (by decide) ?_
  refine g_put F inG6 tyX6 tyX6_ok nmX6 hw 0 rfl rfl 3 (by decide) t_733 (fun _ h9 => h9) rfl (ty := .int) (by decide +kernel) rfl rfl (Nat.le_of_ble_eq_true rfl) dX6_read_2 (w' := wM cy m0 m1 m2 m3 m4 m5 m6 m7 m8 m9 m10 m_now m_tape m_typed 0 m_isFault m_readWet m_readHarvest m_read m_undone m_undos m_bestGain m_aside m_kept m_keptUndos m_isKept m_lanes m_sizes m_items m_moved) rfl (fun H locs hw => ?_)
  refine lv_aload_n hx hb dX6_read_5 rfl (lv_at hl 0 rfl) ?_
  refine lv_iconst (v := 0) hx hb dX6_read_6 (by decide) ?_
  refine g_put F inG6 tyX6 tyX6_ok nmX6 hw 0 rfl rfl 4 (by decide) t_734 (fun _ h9 => h9) rfl (ty := .boolean) (by decide +kernel) rfl rfl (Nat.le_of_ble_eq_true rfl) dX6_read_7 (w' := wM cy m0 m1 m2 m3 m4 m5 m6 m7 m8 m9 m10 m_now m_tape m_typed 0 0 m_readWet m_readHarvest m_read m_undone m_undos m_bestGain m_aside m_kept m_keptUndos m_isKept m_lanes m_sizes m_items m_moved) rfl (fun H locs hw => ?_)
  refine lv_aload_n hx hb dX6_read_10 rfl (lv_at hl 0 rfl) ?_
  obtain ⟨x1, x2, x3, x4, k5, h187⟩ := ob4 h0
  clear h0
  refine g_vv F (cX6_readSundays_ok l d cy m0 m1 m2 m3 m4 m5 m6 m7 m8 m9 m10 m_now m_tape m_typed 0 0 m_readWet m_readHarvest m_read m_undone m_undos m_bestGain m_aside m_kept m_keptUndos m_isKept m_lanes m_sizes m_items m_moved x1 x2 x3 x4 k5) cal_X6_readSundays t_884 rfl ⟨by decide, by decide⟩ hw (w' := wM cy m0 m1 m2 m3 m4 m5 m6 m7 m8 m9 m10 m_now m_tape m_typed x1 x2 x3 x4 m_read m_undone m_undos m_bestGain m_aside m_kept m_keptUndos m_isKept m_lanes m_sizes m_items m_moved) Cut.all 0 6 rfl rfl hl.1 (Nat.le_of_ble_eq_true rfl) rfl dX6_read_11 (fun H locs hw => ?_)
  refine lv_aload_n hx hb dX6_read_14 rfl (lv_at hl 0 rfl) ?_
  refine lv_aload_n hx hb dX6_read_15 rfl (lv_at hl 0 rfl) ?_
  refine g_get F inG6 hw 0 rfl rfl 4 (by decide) t_734 (fun _ h9 => h9) rfl dX6_read_16 ?_
  obtain ⟨x11, x12, h188, h189⟩ := ob2 h187
  clear h187
  have kont13 : ∀ (H : Heap) (locs : List Loc) (ls : Array Slot), Wd d A s.heap (wM cy m0 m1 m2 m3 m4 m5 m6 m7 m8 m9 m10 m_now m_tape m_typed x11 x2 x3 x4 m_read m_undone m_undos m_bestGain m_aside m_kept m_keptUndos m_isKept m_lanes m_sizes m_items m_moved) H locs → lv_has ls 4 [(0, .ref m0)] → W p l e (rmo 4 95) s m args below meth c H locs 0 0 Q (F0 m 36 ls [.int x12, .ref m0]) := by
    intro H locs ls hw hl
    clear h188
    obtain ⟨x19, x20, k21, h190⟩ := ob2 h189
    clear h189
    refine g_vv F (cX6_must_ok l d cy m0 m1 m2 m3 m4 m5 m6 m7 m8 m9 m10 m_now m_tape m_typed x11 x2 x3 x4 m_read m_undone m_undos m_bestGain m_aside m_kept m_keptUndos m_isKept m_lanes m_sizes m_items m_moved x12 x19 x20 k21) cal_X6_must t_892 rfl ⟨by decide, by decide⟩ hw (w' := wM cy m0 m1 m2 m3 m4 m5 m6 m7 m8 m9 m10 m_now m_tape m_typed x19 x20 x3 x4 m_read m_undone m_undos m_bestGain m_aside m_kept m_keptUndos m_isKept m_lanes m_sizes m_items m_moved) Cut.all 0 6 rfl rfl hl.1 (Nat.le_of_ble_eq_true rfl) rfl dX6_read_36 (fun H locs hw => ?_)
    refine lv_aload_n hx hb dX6_read_39 rfl (lv_at hl 0 rfl) ?_
    obtain ⟨r22, x23, x24, f25, k26, h191⟩ := ob4 h190
    clear h190
    refine g_vi F (cX6_readPeople_ok l d cy m0 m1 m2 m3 m4 m5 m6 m7 m8 m9 m10 m_now m_tape m_typed x19 x20 x3 x4 m_read m_undone m_undos m_bestGain m_aside m_kept m_keptUndos m_isKept m_lanes m_sizes m_items m_moved r22 x23 x24 f25 k26) cal_X6_readPeople t_896 rfl ⟨by decide, by decide⟩ hw (w' := wM cy m0 m1 m2 m3 m4 m5 m6 m7 m8 m9 m10 m_now m_tape m_typed x23 x24 x3 x4 f25 m_undone m_undos m_bestGain m_aside m_kept m_keptUndos m_isKept m_lanes m_sizes m_items m_moved) Cut.all 0 6 rfl rfl hl.1 (Nat.le_of_ble_eq_true rfl) rfl dX6_read_40 (fun H locs hw => ?_)
    refine lv_istore_n (lv' := [(1, .int r22), (0, .ref m0)]) hx hb dX6_read_43 rfl hl (by decide) rfl (fun ls hl => ?_)
    refine lv_aload_n hx hb dX6_read_44 rfl (lv_at hl 1 rfl) ?_
    refine lv_aload_n hx hb dX6_read_45 rfl (lv_at hl 1 rfl) ?_
    refine g_get F inG6 hw 0 rfl rfl 4 (by decide) t_734 (fun _ h9 => h9) rfl dX6_read_46 ?_
    obtain ⟨x32, x33, h192, h193⟩ := ob2 h191
    clear h191
    have kont34 : ∀ (H : Heap) (locs : List Loc) (ls : Array Slot), Wd d A s.heap (wM cy m0 m1 m2 m3 m4 m5 m6 m7 m8 m9 m10 m_now m_tape m_typed x32 x24 x3 x4 f25 m_undone m_undos m_bestGain m_aside m_kept m_keptUndos m_isKept m_lanes m_sizes m_items m_moved) H locs → lv_has ls 4 [(0, .ref m0), (1, .int r22)] → W p l e (rmo 4 95) s m args below meth c H locs 0 0 Q (F0 m 64 ls [.int x33, .ref m0]) := by
      intro H locs ls hw hl
      clear h192
      obtain ⟨k40, h194⟩ := ob0 h193
      clear h193
      refine g_put F inG6 tyX6 tyX6_ok nmX6 hw 0 rfl rfl 4 (by decide) t_734 (fun _ h9 => h9) rfl (ty := .boolean) (by decide +kernel) (isb_nar k40) (isb_fit k40) (Nat.le_of_ble_eq_true rfl) dX6_read_64 (w' := wM cy m0 m1 m2 m3 m4 m5 m6 m7 m8 m9 m10 m_now m_tape m_typed x32 x33 x3 x4 f25 m_undone m_undos m_bestGain m_aside m_kept m_keptUndos m_isKept m_lanes m_sizes m_items m_moved) rfl (fun H locs hw => ?_)
      refine lv_aload_n hx hb dX6_read_67 rfl (lv_at hl 0 rfl) ?_
      refine g_get F inG6 hw 0 rfl rfl 4 (by decide) t_734 (fun _ h9 => h9) rfl dX6_read_68 ?_
      obtain ⟨x45, x46, h195, h196⟩ := ob2 h194
      clear h194
      have kont47 : ∀ (H : Heap) (locs : List Loc) (ls : Array Slot), Wd d A s.heap (wM cy m0 m1 m2 m3 m4 m5 m6 m7 m8 m9 m10 m_now m_tape m_typed x45 x46 x3 x4 f25 m_undone m_undos m_bestGain m_aside m_kept m_keptUndos m_isKept m_lanes m_sizes m_items m_moved) H locs → lv_has ls 4 [(0, .ref m0), (1, .int r22)] → W p l e (rmo 4 95) s m args below meth c H locs 0 0 Q (F0 m 95 ls []) := by
        intro H locs ls hw hl
        clear h195
        refine lv_aload_n hx hb dX6_read_95 rfl (lv_at hl 0 rfl) ?_
        refine lv_iconst (v := 0) hx hb dX6_read_96 (by decide) ?_
        refine g_put F inG6 tyX6 tyX6_ok nmX6 hw 0 rfl rfl 2 (by decide) t_732 (fun _ h9 => h9) rfl (ty := .int) (by decide +kernel) rfl rfl (Nat.le_of_ble_eq_true rfl) dX6_read_97 (w' := wM cy m0 m1 m2 m3 m4 m5 m6 m7 m8 m9 m10 m_now m_tape 0 x45 x46 x3 x4 f25 m_undone m_undos m_bestGain m_aside m_kept m_keptUndos m_isKept m_lanes m_sizes m_items m_moved) rfl (fun H locs hw => ?_)
        refine lv_aload_n hx hb dX6_read_100 rfl (lv_at hl 0 rfl) ?_
        refine g_get F inG6 hw 0 rfl rfl 4 (by decide) t_734 (fun _ h9 => h9) rfl dX6_read_101 ?_
        refine lv_if_eq (tgt := 115) hx hb dX6_read_104 (by decide) (fun c52 => ?_) (fun c52 => ?_)
        · rw [if_pos c52] at h196
          refine lv_aload_n hx hb dX6_read_115 rfl (lv_at hl 0 rfl) ?_
          refine g_get F inG6 hw 0 rfl rfl 0 (by decide) t_730 (fun _ h9 => h9) rfl dX6_read_116 ?_
          refine lv_iconst (v := 0) hx hb dX6_read_119 (by decide) ?_
          refine lv_iconst (v := 0) hx hb dX6_read_120 (by decide) ?_
          obtain ⟨j53, k54, h197⟩ := ob1 h196
          clear h196
          refine g_iast F hw 1 rfl k54 dX6_read_121 (w' := wM cy m0 m1 m2 m3 m4 m5 m6 m7 m8 m9 m10 (upd m_now j53 0) m_tape 0 x45 x46 x3 x4 f25 m_undone m_undos m_bestGain m_aside m_kept m_keptUndos m_isKept m_lanes m_sizes m_items m_moved) rfl (fun H locs hw => ?_)
          refine lv_aload_n hx hb dX6_read_122 rfl (lv_at hl 0 rfl) ?_
          refine g_get F inG6 hw 0 rfl rfl 0 (by decide) t_730 (fun _ h9 => h9) rfl dX6_read_123 ?_
          refine lv_iconst (v := 2) hx hb dX6_read_126 (by decide) ?_
          refine lv_aload_n hx hb dX6_read_127 rfl (lv_at hl 0 rfl) ?_
          refine g_get F inG6 hw 0 rfl rfl 5 (by decide) t_735 (fun _ h9 => h9) rfl dX6_read_128 ?_
          obtain ⟨j55, k56, h198⟩ := ob1 h197
          clear h197
          refine g_iast F hw 1 rfl k56 dX6_read_131 (w' := wM cy m0 m1 m2 m3 m4 m5 m6 m7 m8 m9 m10 (upd (upd m_now j53 0) j55 x3) m_tape 0 x45 x46 x3 x4 f25 m_undone m_undos m_bestGain m_aside m_kept m_keptUndos m_isKept m_lanes m_sizes m_items m_moved) rfl (fun H locs hw => ?_)
          refine lv_aload_n hx hb dX6_read_132 rfl (lv_at hl 0 rfl) ?_
          refine g_get F inG6 hw 0 rfl rfl 0 (by decide) t_730 (fun _ h9 => h9) rfl dX6_read_133 ?_
          refine lv_iconst (v := 3) hx hb dX6_read_136 (by decide) ?_
          refine lv_aload_n hx hb dX6_read_137 rfl (lv_at hl 0 rfl) ?_
          refine g_get F inG6 hw 0 rfl rfl 6 (by decide) t_736 (fun _ h9 => h9) rfl dX6_read_138 ?_
          obtain ⟨j57, k58, h199⟩ := ob1 h198
          clear h198
          refine g_iast F hw 1 rfl k58 dX6_read_141 (w' := wM cy m0 m1 m2 m3 m4 m5 m6 m7 m8 m9 m10 (upd (upd (upd m_now j53 0) j55 x3) j57 x4) m_tape 0 x45 x46 x3 x4 f25 m_undone m_undos m_bestGain m_aside m_kept m_keptUndos m_isKept m_lanes m_sizes m_items m_moved) rfl (fun H locs hw => ?_)
          refine lv_iconst (v := 0) hx hb dX6_read_142 (by decide) ?_
          refine lv_istore_n (lv' := [(2, .int 0), (0, .ref m0), (1, .int r22)]) hx hb dX6_read_143 rfl hl (by decide) rfl (fun ls hl => ?_)
          obtain ⟨q146, o147, h200, h201⟩ := ob2 h199
          clear h199
          have kont143 : ∀ (H : Heap) (locs : List Loc) (ls : Array Slot), Wd d A s.heap (wM cy m0 m1 m2 m3 m4 m5 m6 m7 m8 m9 m10 q146 m_tape 0 x45 x46 x3 x4 f25 m_undone o147 m_bestGain m_aside m_kept m_keptUndos m_isKept m_lanes m_sizes m_items m_moved) H locs → lv_has ls 4 [(1, .int r22)] → W p l e (rmo 4 95) s m args below meth c H locs 0 0 Q (F0 m 236 ls []) := by
            intro H locs ls hw hl
            clear h200
            refine lv_iload_n hx hb dX6_read_236 rfl (lv_at hl 0 rfl) ?_
            obtain ⟨rfl, rfl, rfl, rfl, rfl, rfl, rfl, rfl, rfl⟩ := inj9 h201
            exact hret _ _ _ _ hw dX6_read_237
          clear h201
          have loop145 : ∀ (n : Nat) (v140 : Int32) (g141 : Nat → Int32) (v142 : Int32) (H : Heap) (locs : List Loc) (ls : Array Slot), Wd d A s.heap (wM cy m0 m1 m2 m3 m4 m5 m6 m7 m8 m9 m10 g141 m_tape 0 x45 x46 x3 x4 f25 m_undone v142 m_bestGain m_aside m_kept m_keptUndos m_isKept m_lanes m_sizes m_items m_moved) H locs → lv_has ls 4 [(0, .ref m0), (1, .int r22), (2, .int v140)] → fX6_read_L144 r22 f25 n v140 g141 v142 = some (q146, o147) → W p l e (rmo 4 95) s m args below meth c H locs 0 0 Q (F0 m 144 ls []) := by
            intro n
            induction n with
            | zero =>
              intro v140 g141 v142 H locs ls hw hl h202
              rw [fX6_read_L144] at h202
              cases h202
            | succ n ih144 =>
              intro v140 g141 v142 H locs ls hw hl h203
              rw [fX6_read_L144] at h203
              refine lv_iload_n hx hb dX6_read_144 rfl (lv_at hl 2 rfl) ?_
              refine lv_iload_n hx hb dX6_read_145 rfl (lv_at hl 1 rfl) ?_
              refine lv_icmp_ge (tgt := 236) hx hb dX6_read_146 (by decide) (fun c148 => ?_) (fun c148 => ?_)
              · rw [if_pos c148] at h203
                obtain ⟨rfl, rfl⟩ := inj2 h203
                exact kont143 _ _ _ hw (lv_sub hl [1] rfl)
              · rw [if_neg c148] at h203
                refine lv_aload_n hx hb dX6_read_149 rfl (lv_at hl 0 rfl) ?_
                refine lv_aload_n hx hb dX6_read_150 rfl (lv_at hl 0 rfl) ?_
                refine g_get F inG6 hw 0 rfl rfl 7 (by decide) t_737 (fun _ h9 => h9) rfl dX6_read_151 ?_
                refine lv_iconst (v := 5) hx hb dX6_read_154 (by decide) ?_
                refine lv_iload_n hx hb dX6_read_155 rfl (lv_at hl 2 rfl) ?_
                refine lv_imul hx hb dX6_read_156 ?_
                obtain ⟨j149, k150, h204⟩ := ob1 h203
                clear h203
                refine g_iald F hw 3 rfl k150 dX6_read_157 ?_
                refine lv_aload_n hx hb dX6_read_158 rfl (lv_at hl 0 rfl) ?_
                refine g_get F inG6 hw 0 rfl rfl 7 (by decide) t_737 (fun _ h9 => h9) rfl dX6_read_159 ?_
                refine lv_iconst (v := 5) hx hb dX6_read_162 (by decide) ?_
                refine lv_iload_n hx hb dX6_read_163 rfl (lv_at hl 2 rfl) ?_
                refine lv_imul hx hb dX6_read_164 ?_
                refine lv_iconst (v := 1) hx hb dX6_read_165 (by decide) ?_
                refine lv_iadd hx hb dX6_read_166 ?_
                obtain ⟨j151, k152, h205⟩ := ob1 h204
                clear h204
                refine g_iald F hw 3 rfl k152 dX6_read_167 ?_
                refine lv_aload_n hx hb dX6_read_168 rfl (lv_at hl 0 rfl) ?_
                refine g_get F inG6 hw 0 rfl rfl 7 (by decide) t_737 (fun _ h9 => h9) rfl dX6_read_169 ?_
                refine lv_iconst (v := 5) hx hb dX6_read_172 (by decide) ?_
                refine lv_iload_n hx hb dX6_read_173 rfl (lv_at hl 2 rfl) ?_
                refine lv_imul hx hb dX6_read_174 ?_
                refine lv_iconst (v := 2) hx hb dX6_read_175 (by decide) ?_
                refine lv_iadd hx hb dX6_read_176 ?_
                obtain ⟨j153, k154, h206⟩ := ob1 h205
                clear h205
                refine g_iald F hw 3 rfl k154 dX6_read_177 ?_
                obtain ⟨f155, x156, k157, h207⟩ := ob2 h206
                clear h206
                refine g_vv F (cX6_personComes_ok l d cy m0 m1 m2 m3 m4 m5 m6 m7 m8 m9 m10 g141 m_tape 0 x45 x46 x3 x4 f25 m_undone v142 m_bestGain m_aside m_kept m_keptUndos m_isKept m_lanes m_sizes m_items m_moved (f25 j149) (f25 j151) (f25 j153) f155 x156 k157) cal_X6_personComes t_796 rfl ⟨by decide, by decide⟩ hw (w' := wM cy m0 m1 m2 m3 m4 m5 m6 m7 m8 m9 m10 f155 m_tape 0 x45 x46 x3 x4 f25 m_undone x156 m_bestGain m_aside m_kept m_keptUndos m_isKept m_lanes m_sizes m_items m_moved) Cut.all 0 6 rfl rfl hl.1 (Nat.le_of_ble_eq_true rfl) rfl dX6_read_178 (fun H locs hw => ?_)
                refine lv_iconst (v := 0) hx hb dX6_read_181 (by decide) ?_
                refine lv_istore_n (lv' := [(3, .int 0), (0, .ref m0), (1, .int r22), (2, .int v140)]) hx hb dX6_read_182 rfl hl (by decide) rfl (fun ls hl => ?_)
                obtain ⟨q179, h208, h209⟩ := ob1 h207
                clear h207
                have kont176 : ∀ (H : Heap) (locs : List Loc) (ls : Array Slot), Wd d A s.heap (wM cy m0 m1 m2 m3 m4 m5 m6 m7 m8 m9 m10 q179 m_tape 0 x45 x46 x3 x4 f25 m_undone x156 m_bestGain m_aside m_kept m_keptUndos m_isKept m_lanes m_sizes m_items m_moved) H locs → lv_has ls 4 [(0, .ref m0), (1, .int r22), (2, .int v140)] → W p l e (rmo 4 95) s m args below meth c H locs 0 0 Q (F0 m 230 ls []) := by
                  intro H locs ls hw hl
                  clear h208
                  refine lv_iinc (v := (v140 + 1)) (lv' := [(2, .int (v140 + 1)), (0, .ref m0), (1, .int r22)]) hx hb dX6_read_230 hl (k := 2) rfl rfl (by decide) rfl (fun ls hl => ?_)
                  refine lv_goto (tgt := 144) hx hb dX6_read_233 (by decide) ?_
                  exact ih144 (v140 + 1) q179 x156 _ _ _ hw (lv_sub hl [1, 2, 0] rfl) h209
                clear h209
                have loop178 : ∀ (n : Nat) (v174 : Int32) (g175 : Nat → Int32) (H : Heap) (locs : List Loc) (ls : Array Slot), Wd d A s.heap (wM cy m0 m1 m2 m3 m4 m5 m6 m7 m8 m9 m10 g175 m_tape 0 x45 x46 x3 x4 f25 m_undone x156 m_bestGain m_aside m_kept m_keptUndos m_isKept m_lanes m_sizes m_items m_moved) H locs → lv_has ls 4 [(0, .ref m0), (1, .int r22), (2, .int v140), (3, .int v174)] → fX6_read_L183 f25 v140 n v174 g175 = some (q179) → W p l e (rmo 4 95) s m args below meth c H locs 0 0 Q (F0 m 183 ls []) := by
                  intro n
                  induction n with
                  | zero =>
                    intro v174 g175 H locs ls hw hl h210
                    rw [fX6_read_L183] at h210
                    cases h210
                  | succ n ih177 =>
                    intro v174 g175 H locs ls hw hl h211
                    rw [fX6_read_L183] at h211
                    refine lv_iload_n hx hb dX6_read_183 rfl (lv_at hl 3 rfl) ?_
                    refine lv_bipush (v := 12) hx hb dX6_read_184 (by decide) ?_
                    refine lv_icmp_ge (tgt := 230) hx hb dX6_read_186 (by decide) (fun c180 => ?_) (fun c180 => ?_)
                    · rw [if_pos c180] at h211
                      obtain rfl := inj1 h211
                      exact kont176 _ _ _ hw (lv_sub hl [0, 1, 2] rfl)
                    · rw [if_neg c180] at h211
                      refine lv_aload_n hx hb dX6_read_189 rfl (lv_at hl 0 rfl) ?_
                      refine lv_iload_n hx hb dX6_read_190 rfl (lv_at hl 2 rfl) ?_
                      refine lv_iload_n hx hb dX6_read_191 rfl (lv_at hl 3 rfl) ?_
                      refine lv_aload_n hx hb dX6_read_192 rfl (lv_at hl 0 rfl) ?_
                      refine g_get F inG6 hw 0 rfl rfl 7 (by decide) t_737 (fun _ h9 => h9) rfl dX6_read_193 ?_
                      refine lv_iconst (v := 5) hx hb dX6_read_196 (by decide) ?_
                      refine lv_iload_n hx hb dX6_read_197 rfl (lv_at hl 2 rfl) ?_
                      refine lv_imul hx hb dX6_read_198 ?_
                      refine lv_iconst (v := 4) hx hb dX6_read_199 (by decide) ?_
                      refine lv_iadd hx hb dX6_read_200 ?_
                      obtain ⟨j181, k182, h212⟩ := ob1 h211
                      clear h211
                      refine g_iald F hw 3 rfl k182 dX6_read_201 ?_
                      refine lv_iload_n hx hb dX6_read_202 rfl (lv_at hl 3 rfl) ?_
                      refine lv_ishr hx hb dX6_read_203 ?_
                      refine lv_iconst (v := 1) hx hb dX6_read_204 (by decide) ?_
                      refine lv_iand hx hb dX6_read_205 ?_
                      refine lv_aload_n hx hb dX6_read_206 rfl (lv_at hl 0 rfl) ?_
                      refine g_get F inG6 hw 0 rfl rfl 7 (by decide) t_737 (fun _ h9 => h9) rfl dX6_read_207 ?_
                      refine lv_iconst (v := 5) hx hb dX6_read_210 (by decide) ?_
                      refine lv_iload_n hx hb dX6_read_211 rfl (lv_at hl 2 rfl) ?_
                      refine lv_imul hx hb dX6_read_212 ?_
                      refine lv_iconst (v := 3) hx hb dX6_read_213 (by decide) ?_
                      refine lv_iadd hx hb dX6_read_214 ?_
                      obtain ⟨j183, k184, h213⟩ := ob1 h212
                      clear h212
                      refine g_iald F hw 3 rfl k184 dX6_read_215 ?_
                      refine lv_iload_n hx hb dX6_read_216 rfl (lv_at hl 3 rfl) ?_
                      refine lv_ishr hx hb dX6_read_217 ?_
                      refine lv_iconst (v := 1) hx hb dX6_read_218 (by decide) ?_
                      refine lv_iand hx hb dX6_read_219 ?_
                      refine lv_isub hx hb dX6_read_220 ?_
                      obtain ⟨f185, k186, h214⟩ := ob1 h213
                      clear h213
                      refine g_vv F (cX6_gets_ok l d cy m0 m1 m2 m3 m4 m5 m6 m7 m8 m9 m10 g175 m_tape 0 x45 x46 x3 x4 f25 m_undone x156 m_bestGain m_aside m_kept m_keptUndos m_isKept m_lanes m_sizes m_items m_moved v140 v174 ((((f25 j181) >>> (v174 &&& 31)) &&& 1) - (((f25 j183) >>> (v174 &&& 31)) &&& 1)) f185 k186) cal_X6_gets t_914 rfl ⟨by decide, by decide⟩ hw (w' := wM cy m0 m1 m2 m3 m4 m5 m6 m7 m8 m9 m10 f185 m_tape 0 x45 x46 x3 x4 f25 m_undone x156 m_bestGain m_aside m_kept m_keptUndos m_isKept m_lanes m_sizes m_items m_moved) Cut.all 0 6 rfl rfl hl.1 (Nat.le_of_ble_eq_true rfl) rfl dX6_read_221 (fun H locs hw => ?_)
                      refine lv_iinc (v := (v174 + 1)) (lv' := [(3, .int (v174 + 1)), (0, .ref m0), (1, .int r22), (2, .int v140)]) hx hb dX6_read_224 hl (k := 3) rfl rfl (by decide) rfl (fun ls hl => ?_)
                      refine lv_goto (tgt := 183) hx hb dX6_read_227 (by decide) ?_
                      exact ih177 (v174 + 1) f185 _ _ _ hw (lv_sub hl [1, 2, 3, 0] rfl) h214
                exact loop178 fl 0 f155 _ _ _ hw (lv_sub hl [1, 2, 3, 0] rfl) h208
          exact loop145 fl 0 (upd (upd (upd m_now j53 0) j55 x3) j57 x4) m_undos _ _ _ hw (lv_sub hl [1, 2, 0] rfl) h200
        · rw [if_neg c52] at h196
          refine lv_bipush (v := (-20)) hx hb dX6_read_107 (by decide) ?_
          refine lv_aload_n hx hb dX6_read_109 rfl (lv_at hl 0 rfl) ?_
          refine g_get F inG6 hw 0 rfl rfl 3 (by decide) t_733 (fun _ h9 => h9) rfl dX6_read_110 ?_
          refine lv_isub hx hb dX6_read_113 ?_
          obtain ⟨rfl, rfl, rfl, rfl, rfl, rfl, rfl, rfl, rfl⟩ := inj9 h196
          exact hret _ _ _ _ hw dX6_read_114
      clear h196
      refine lv_if_ne (tgt := 95) hx hb dX6_read_71 (by decide) (fun c48 => ?_) (fun c48 => ?_)
      · rw [if_neg c48] at h195
        obtain ⟨rfl, rfl⟩ := inj2 h195
        exact kont47 _ _ _ hw (lv_sub hl [0, 1] rfl)
      · rw [if_pos c48] at h195
        refine lv_aload_n hx hb dX6_read_74 rfl (lv_at hl 0 rfl) ?_
        refine lv_iload_n hx hb dX6_read_75 rfl (lv_at hl 1 rfl) ?_
        obtain ⟨r49, k50, h215⟩ := ob1 h195
        clear h195
        refine g_vi F (cX6_areThere_ok l d cy m0 m1 m2 m3 m4 m5 m6 m7 m8 m9 m10 m_now m_tape m_typed x32 x33 x3 x4 f25 m_undone m_undos m_bestGain m_aside m_kept m_keptUndos m_isKept m_lanes m_sizes m_items m_moved r22 r49 k50) cal_X6_areThere t_910 rfl ⟨by decide, by decide⟩ hw (w' := wM cy m0 m1 m2 m3 m4 m5 m6 m7 m8 m9 m10 m_now m_tape m_typed x32 x33 x3 x4 f25 m_undone m_undos m_bestGain m_aside m_kept m_keptUndos m_isKept m_lanes m_sizes m_items m_moved) Cut.all 0 6 rfl rfl hl.1 (Nat.le_of_ble_eq_true rfl) rfl dX6_read_76 (fun H locs hw => ?_)
        refine lv_if_ne (tgt := 95) hx hb dX6_read_79 (by decide) (fun c51 => ?_) (fun c51 => ?_)
        · rw [if_neg c51] at h215
          obtain ⟨rfl, rfl⟩ := inj2 h215
          exact kont47 _ _ _ hw (lv_sub hl [0, 1] rfl)
        · rw [if_pos c51] at h215
          refine lv_aload_n hx hb dX6_read_82 rfl (lv_at hl 0 rfl) ?_
          refine lv_iconst (v := 1) hx hb dX6_read_83 (by decide) ?_
          refine g_put F inG6 tyX6 tyX6_ok nmX6 hw 0 rfl rfl 4 (by decide) t_734 (fun _ h9 => h9) rfl (ty := .boolean) (by decide +kernel) rfl rfl (Nat.le_of_ble_eq_true rfl) dX6_read_84 (w' := wM cy m0 m1 m2 m3 m4 m5 m6 m7 m8 m9 m10 m_now m_tape m_typed x32 1 x3 x4 f25 m_undone m_undos m_bestGain m_aside m_kept m_keptUndos m_isKept m_lanes m_sizes m_items m_moved) rfl (fun H locs hw => ?_)
          refine lv_aload_n hx hb dX6_read_87 rfl (lv_at hl 0 rfl) ?_
          refine lv_aload_n hx hb dX6_read_88 rfl (lv_at hl 0 rfl) ?_
          refine g_get F inG6 hw 0 rfl rfl 2 (by decide) t_732 (fun _ h9 => h9) rfl dX6_read_89 ?_
          refine g_put F inG6 tyX6 tyX6_ok nmX6 hw 0 rfl rfl 3 (by decide) t_733 (fun _ h9 => h9) rfl (ty := .int) (by decide +kernel) rfl rfl (Nat.le_of_ble_eq_true rfl) dX6_read_92 (w' := wM cy m0 m1 m2 m3 m4 m5 m6 m7 m8 m9 m10 m_now m_tape m_typed m_typed 1 x3 x4 f25 m_undone m_undos m_bestGain m_aside m_kept m_keptUndos m_isKept m_lanes m_sizes m_items m_moved) rfl (fun H locs hw => ?_)
          obtain ⟨rfl, rfl⟩ := inj2 h215
          exact kont47 _ _ _ hw (lv_sub hl [0, 1] rfl)
    clear h193
    refine lv_if_ne (tgt := 59) hx hb dX6_read_49 (by decide) (fun c35 => ?_) (fun c35 => ?_)
    · rw [if_neg c35] at h192
      refine lv_iconst (v := 1) hx hb dX6_read_59 (by decide) ?_
      refine lv_goto (tgt := 64) hx hb dX6_read_60 (by decide) ?_
      obtain ⟨rfl, rfl⟩ := inj2 h192
      exact kont34 _ _ _ hw (lv_sub hl [1, 0] rfl)
    · rw [if_pos c35] at h192
      refine lv_aload_n hx hb dX6_read_52 rfl (lv_at hl 1 rfl) ?_
      obtain ⟨r36, x37, k38, h216⟩ := ob2 h192
      clear h192
      refine g_vi F (cX6_here_ok l d cy m0 m1 m2 m3 m4 m5 m6 m7 m8 m9 m10 m_now m_tape m_typed x23 x24 x3 x4 f25 m_undone m_undos m_bestGain m_aside m_kept m_keptUndos m_isKept m_lanes m_sizes m_items m_moved r36 x37 k38) cal_X6_here t_888 rfl ⟨by decide, by decide⟩ hw (w' := wM cy m0 m1 m2 m3 m4 m5 m6 m7 m8 m9 m10 m_now m_tape m_typed x37 x24 x3 x4 f25 m_undone m_undos m_bestGain m_aside m_kept m_keptUndos m_isKept m_lanes m_sizes m_items m_moved) Cut.all 0 6 rfl rfl hl.1 (Nat.le_of_ble_eq_true rfl) rfl dX6_read_53 (fun H locs hw => ?_)
      refine lv_if_eq (tgt := 63) hx hb dX6_read_56 (by decide) (fun c39 => ?_) (fun c39 => ?_)
      · rw [if_pos c39] at h216
        refine lv_iconst (v := 0) hx hb dX6_read_63 (by decide) ?_
        obtain ⟨rfl, rfl⟩ := inj2 h216
        exact kont34 _ _ _ hw (lv_sub hl [1, 0] rfl)
      · rw [if_neg c39] at h216
        refine lv_iconst (v := 1) hx hb dX6_read_59 (by decide) ?_
        refine lv_goto (tgt := 64) hx hb dX6_read_60 (by decide) ?_
        obtain ⟨rfl, rfl⟩ := inj2 h216
        exact kont34 _ _ _ hw (lv_sub hl [1, 0] rfl)
  clear h189
  refine lv_if_ne (tgt := 35) hx hb dX6_read_19 (by decide) (fun c14 => ?_) (fun c14 => ?_)
  · rw [if_neg c14] at h188
    refine lv_iconst (v := 0) hx hb dX6_read_35 (by decide) ?_
    obtain ⟨rfl, rfl⟩ := inj2 h188
    exact kont13 _ _ _ hw (lv_sub hl [0] rfl)
  · rw [if_pos c14] at h188
    refine lv_aload_n hx hb dX6_read_22 rfl (lv_at hl 0 rfl) ?_
    obtain ⟨r15, x16, k17, h217⟩ := ob2 h188
    clear h188
    refine g_vi F (cX6_here_ok l d cy m0 m1 m2 m3 m4 m5 m6 m7 m8 m9 m10 m_now m_tape m_typed x1 x2 x3 x4 m_read m_undone m_undos m_bestGain m_aside m_kept m_keptUndos m_isKept m_lanes m_sizes m_items m_moved r15 x16 k17) cal_X6_here t_888 rfl ⟨by decide, by decide⟩ hw (w' := wM cy m0 m1 m2 m3 m4 m5 m6 m7 m8 m9 m10 m_now m_tape m_typed x16 x2 x3 x4 m_read m_undone m_undos m_bestGain m_aside m_kept m_keptUndos m_isKept m_lanes m_sizes m_items m_moved) Cut.all 0 6 rfl rfl hl.1 (Nat.le_of_ble_eq_true rfl) rfl dX6_read_23 (fun H locs hw => ?_)
    refine lv_bipush (v := 59) hx hb dX6_read_26 (by decide) ?_
    refine lv_icmp_ne (tgt := 35) hx hb dX6_read_28 (by decide) (fun c18 => ?_) (fun c18 => ?_)
    · rw [if_neg c18] at h217
      refine lv_iconst (v := 0) hx hb dX6_read_35 (by decide) ?_
      obtain ⟨rfl, rfl⟩ := inj2 h217
      exact kont13 _ _ _ hw (lv_sub hl [0] rfl)
    · rw [if_pos c18] at h217
      refine lv_iconst (v := 1) hx hb dX6_read_31 (by decide) ?_
      refine lv_goto (tgt := 36) hx hb dX6_read_32 (by decide) ?_
      obtain ⟨rfl, rfl⟩ := inj2 h217
      exact kont13 _ _ _ hw (lv_sub hl [0] rfl)
theorem cal_X6_notes : CalV yX6_notes cX6_notes 3 none RX6 0 := ⟨t_937, t_936, t_25, t_43, by decide +kernel⟩
set_option maxHeartbeats 4000000 in
set_option maxRecDepth 100000 in
theorem cX6_notes_ok (l : Launch) (d : va_G) (cy : Nat → ClassId) (m0 m1 m2 m3 m4 m5 m6 m7 m8 m9 m10 : Nat) (m_now : Nat → Int32) (m_tape : Nat → Int32) (m_typed : Int32) (m_place : Int32) (m_isFault : Int32) (m_readWet : Int32) (m_readHarvest : Int32) (m_read : Nat → Int32) (m_undone : Nat → Int32) (m_undos : Int32) (m_bestGain : Int32) (m_aside : Nat → Int32) (m_kept : Nat → Int32) (m_keptUndos : Int32) (m_isKept : Int32) (m_lanes : Nat → Int32) (m_sizes : Nat → Int32) (m_items : Nat → Int64) (m_moved : Nat → Int64) (m_undone_r : Nat → Int32) (m_undos_r : Int32) (h0 : fX6_notes m_now m_undone m_undos = some (m_undone_r, m_undos_r)) : CV l yX6_notes cX6_notes 3 none 1 22 d cy [.ref m0] (wM cy m0 m1 m2 m3 m4 m5 m6 m7 m8 m9 m10 m_now m_tape m_typed m_place m_isFault m_readWet m_readHarvest m_read m_undone m_undos m_bestGain m_aside m_kept m_keptUndos m_isKept m_lanes m_sizes m_items m_moved) (wM cy m0 m1 m2 m3 m4 m5 m6 m7 m8 m9 m10 m_now m_tape m_typed m_place m_isFault m_readWet m_readHarvest m_read m_undone_r m_undos_r m_bestGain m_aside m_kept m_keptUndos m_isKept m_lanes m_sizes m_items m_moved) := by
  refine CV.of (by decide) (Nat.le_of_ble_eq_true rfl) ?_
  intro p e s m args below meth c A ls Q F hret hw hl
  have hx := F.1
  have hb := F.2.1
  have hl : lv_has ls 3 [(0, .ref m0)] := hl
  rw [fX6_notes] at h0
  refine lv_aload_n hx hb dX6_notes_0 rfl (lv_at hl 0 rfl) ?_
  refine g_get F inG6 hw 0 rfl rfl 9 (by decide) t_739 (fun _ h9 => h9) rfl dX6_notes_1 ?_
  refine lv_bipush (v := 8) hx hb dX6_notes_4 (by decide) ?_
  obtain ⟨f25, x26, h121, h122⟩ := ob2 h0
  clear h0
  have kont27 : ∀ (H : Heap) (locs : List Loc) (ls : Array Slot), Wd d A s.heap (wM cy m0 m1 m2 m3 m4 m5 m6 m7 m8 m9 m10 m_now m_tape m_typed m_place m_isFault m_readWet m_readHarvest m_read f25 x26 m_bestGain m_aside m_kept m_keptUndos m_isKept m_lanes m_sizes m_items m_moved) H locs → lv_has ls 3 [(0, .ref m0)] → W p l e (rmo 1 22) s m args below meth c H locs 0 0 Q (F0 m 46 ls []) := by
    intro H locs ls hw hl
    clear h121
    refine lv_bipush (v := 81) hx hb dX6_notes_46 (by decide) ?_
    refine lv_aload_n hx hb dX6_notes_48 rfl (lv_at hl 0 rfl) ?_
    refine g_get F inG6 hw 0 rfl rfl 9 (by decide) t_739 (fun _ h9 => h9) rfl dX6_notes_49 ?_
    refine lv_imul hx hb dX6_notes_52 ?_
    refine lv_istore_n (lv' := [(1, .int (81 * x26)), (0, .ref m0)]) hx hb dX6_notes_53 rfl hl (by decide) rfl (fun ls hl => ?_)
    refine lv_iconst (v := 0) hx hb dX6_notes_54 (by decide) ?_
    refine lv_istore_n (lv' := [(2, .int 0), (1, .int (81 * x26)), (0, .ref m0)]) hx hb dX6_notes_55 rfl hl (by decide) rfl (fun ls hl => ?_)
    obtain ⟨q69, h123, h124⟩ := ob1 h122
    clear h122
    have kont66 : ∀ (H : Heap) (locs : List Loc) (ls : Array Slot), Wd d A s.heap (wM cy m0 m1 m2 m3 m4 m5 m6 m7 m8 m9 m10 m_now m_tape m_typed m_place m_isFault m_readWet m_readHarvest m_read q69 x26 m_bestGain m_aside m_kept m_keptUndos m_isKept m_lanes m_sizes m_items m_moved) H locs → lv_has ls 3 [(0, .ref m0), (1, .int (81 * x26))] → W p l e (rmo 1 22) s m args below meth c H locs 0 0 Q (F0 m 83 ls []) := by
      intro H locs ls hw hl
      clear h123
      refine lv_iconst (v := 0) hx hb dX6_notes_83 (by decide) ?_
      refine lv_istore_n (lv' := [(2, .int 0), (0, .ref m0), (1, .int (81 * x26))]) hx hb dX6_notes_84 rfl hl (by decide) rfl (fun ls hl => ?_)
      obtain ⟨q92, h125, h126⟩ := ob1 h124
      clear h124
      have kont89 : ∀ (H : Heap) (locs : List Loc) (ls : Array Slot), Wd d A s.heap (wM cy m0 m1 m2 m3 m4 m5 m6 m7 m8 m9 m10 m_now m_tape m_typed m_place m_isFault m_readWet m_readHarvest m_read q92 x26 m_bestGain m_aside m_kept m_keptUndos m_isKept m_lanes m_sizes m_items m_moved) H locs → lv_has ls 3 [(0, .ref m0), (1, .int (81 * x26))] → W p l e (rmo 1 22) s m args below meth c H locs 0 0 Q (F0 m 113 ls []) := by
        intro H locs ls hw hl
        clear h125
        refine lv_iconst (v := 0) hx hb dX6_notes_113 (by decide) ?_
        refine lv_istore_n (lv' := [(2, .int 0), (0, .ref m0), (1, .int (81 * x26))]) hx hb dX6_notes_114 rfl hl (by decide) rfl (fun ls hl => ?_)
        obtain ⟨q115, h127, h128⟩ := ob1 h126
        clear h126
        have kont112 : ∀ (H : Heap) (locs : List Loc) (ls : Array Slot), Wd d A s.heap (wM cy m0 m1 m2 m3 m4 m5 m6 m7 m8 m9 m10 m_now m_tape m_typed m_place m_isFault m_readWet m_readHarvest m_read q115 x26 m_bestGain m_aside m_kept m_keptUndos m_isKept m_lanes m_sizes m_items m_moved) H locs → lv_has ls 3 [(0, .ref m0)] → W p l e (rmo 1 22) s m args below meth c H locs 0 0 Q (F0 m 147 ls []) := by
          intro H locs ls hw hl
          clear h127
          refine lv_aload_n hx hb dX6_notes_147 rfl (lv_at hl 0 rfl) ?_
          refine lv_dup hx hb dX6_notes_148 rfl ?_
          refine g_get F inG6 hw 0 rfl rfl 9 (by decide) t_739 (fun _ h9 => h9) rfl dX6_notes_149 ?_
          refine lv_iconst (v := 1) hx hb dX6_notes_152 (by decide) ?_
          refine lv_iadd hx hb dX6_notes_153 ?_
          refine g_put F inG6 tyX6 tyX6_ok nmX6 hw 0 rfl rfl 9 (by decide) t_739 (fun _ h9 => h9) rfl (ty := .int) (by decide +kernel) rfl rfl (Nat.le_of_ble_eq_true rfl) dX6_notes_154 (w' := wM cy m0 m1 m2 m3 m4 m5 m6 m7 m8 m9 m10 m_now m_tape m_typed m_place m_isFault m_readWet m_readHarvest m_read q115 (x26 + 1) m_bestGain m_aside m_kept m_keptUndos m_isKept m_lanes m_sizes m_items m_moved) rfl (fun H locs hw => ?_)
          obtain ⟨rfl, rfl⟩ := inj2 h128
          exact hret _ _ _ _ hw dX6_notes_157
        clear h128
        have loop114 : ∀ (n : Nat) (v110 : Int32) (g111 : Nat → Int32) (H : Heap) (locs : List Loc) (ls : Array Slot), Wd d A s.heap (wM cy m0 m1 m2 m3 m4 m5 m6 m7 m8 m9 m10 m_now m_tape m_typed m_place m_isFault m_readWet m_readHarvest m_read g111 x26 m_bestGain m_aside m_kept m_keptUndos m_isKept m_lanes m_sizes m_items m_moved) H locs → lv_has ls 3 [(0, .ref m0), (1, .int (81 * x26)), (2, .int v110)] → fX6_notes_L115 m_now x26 n v110 g111 = some (q115) → W p l e (rmo 1 22) s m args below meth c H locs 0 0 Q (F0 m 115 ls []) := by
          intro n
          induction n with
          | zero =>
            intro v110 g111 H locs ls hw hl h129
            rw [fX6_notes_L115] at h129
            cases h129
          | succ n ih113 =>
            intro v110 g111 H locs ls hw hl h130
            rw [fX6_notes_L115] at h130
            refine lv_iload_n hx hb dX6_notes_115 rfl (lv_at hl 2 rfl) ?_
            refine lv_bipush (v := 72) hx hb dX6_notes_116 (by decide) ?_
            refine lv_icmp_ge (tgt := 147) hx hb dX6_notes_118 (by decide) (fun c116 => ?_) (fun c116 => ?_)
            · rw [if_pos c116] at h130
              obtain rfl := inj1 h130
              exact kont112 _ _ _ hw (lv_sub hl [0] rfl)
            · rw [if_neg c116] at h130
              refine lv_aload_n hx hb dX6_notes_121 rfl (lv_at hl 0 rfl) ?_
              refine g_get F inG6 hw 0 rfl rfl 8 (by decide) t_738 (fun _ h9 => h9) rfl dX6_notes_122 ?_
              refine lv_iload_n hx hb dX6_notes_125 rfl (lv_at hl 1 rfl) ?_
              refine lv_bipush (v := 9) hx hb dX6_notes_126 (by decide) ?_
              refine lv_iadd hx hb dX6_notes_128 ?_
              refine lv_iload_n hx hb dX6_notes_129 rfl (lv_at hl 2 rfl) ?_
              refine lv_iadd hx hb dX6_notes_130 ?_
              refine lv_aload_n hx hb dX6_notes_131 rfl (lv_at hl 0 rfl) ?_
              refine g_get F inG6 hw 0 rfl rfl 0 (by decide) t_730 (fun _ h9 => h9) rfl dX6_notes_132 ?_
              refine lv_bipush (v := 23) hx hb dX6_notes_135 (by decide) ?_
              refine lv_iload_n hx hb dX6_notes_137 rfl (lv_at hl 2 rfl) ?_
              refine lv_iadd hx hb dX6_notes_138 ?_
              obtain ⟨j117, k118, h131⟩ := ob1 h130
              clear h130
              refine g_iald F hw 1 rfl k118 dX6_notes_139 ?_
              obtain ⟨j119, k120, h132⟩ := ob1 h131
              clear h131
              refine g_iast F hw 4 rfl k120 dX6_notes_140 (w' := wM cy m0 m1 m2 m3 m4 m5 m6 m7 m8 m9 m10 m_now m_tape m_typed m_place m_isFault m_readWet m_readHarvest m_read (upd g111 j119 (m_now j117)) x26 m_bestGain m_aside m_kept m_keptUndos m_isKept m_lanes m_sizes m_items m_moved) rfl (fun H locs hw => ?_)
              refine lv_iinc (v := (v110 + 1)) (lv' := [(2, .int (v110 + 1)), (0, .ref m0), (1, .int (81 * x26))]) hx hb dX6_notes_141 hl (k := 2) rfl rfl (by decide) rfl (fun ls hl => ?_)
              refine lv_goto (tgt := 115) hx hb dX6_notes_144 (by decide) ?_
              exact ih113 (v110 + 1) (upd g111 j119 (m_now j117)) _ _ _ hw (lv_sub hl [1, 2, 0] rfl) h132
        exact loop114 fl 0 q92 _ _ _ hw (lv_sub hl [1, 2, 0] rfl) h127
      clear h126
      have loop91 : ∀ (n : Nat) (v87 : Int32) (g88 : Nat → Int32) (H : Heap) (locs : List Loc) (ls : Array Slot), Wd d A s.heap (wM cy m0 m1 m2 m3 m4 m5 m6 m7 m8 m9 m10 m_now m_tape m_typed m_place m_isFault m_readWet m_readHarvest m_read g88 x26 m_bestGain m_aside m_kept m_keptUndos m_isKept m_lanes m_sizes m_items m_moved) H locs → lv_has ls 3 [(0, .ref m0), (1, .int (81 * x26)), (2, .int v87)] → fX6_notes_L85 m_now x26 n v87 g88 = some (q92) → W p l e (rmo 1 22) s m args below meth c H locs 0 0 Q (F0 m 85 ls []) := by
        intro n
        induction n with
        | zero =>
          intro v87 g88 H locs ls hw hl h133
          rw [fX6_notes_L85] at h133
          cases h133
        | succ n ih90 =>
          intro v87 g88 H locs ls hw hl h134
          rw [fX6_notes_L85] at h134
          refine lv_iload_n hx hb dX6_notes_85 rfl (lv_at hl 2 rfl) ?_
          refine lv_bipush (v := 6) hx hb dX6_notes_86 (by decide) ?_
          refine lv_icmp_ge (tgt := 113) hx hb dX6_notes_88 (by decide) (fun c93 => ?_) (fun c93 => ?_)
          · rw [if_pos c93] at h134
            obtain rfl := inj1 h134
            exact kont89 _ _ _ hw (lv_sub hl [0, 1] rfl)
          · rw [if_neg c93] at h134
            refine lv_aload_n hx hb dX6_notes_91 rfl (lv_at hl 0 rfl) ?_
            refine g_get F inG6 hw 0 rfl rfl 8 (by decide) t_738 (fun _ h9 => h9) rfl dX6_notes_92 ?_
            refine lv_iload_n hx hb dX6_notes_95 rfl (lv_at hl 1 rfl) ?_
            refine lv_iconst (v := 3) hx hb dX6_notes_96 (by decide) ?_
            refine lv_iadd hx hb dX6_notes_97 ?_
            refine lv_iload_n hx hb dX6_notes_98 rfl (lv_at hl 2 rfl) ?_
            refine lv_iadd hx hb dX6_notes_99 ?_
            refine lv_aload_n hx hb dX6_notes_100 rfl (lv_at hl 0 rfl) ?_
            refine lv_iload_n hx hb dX6_notes_101 rfl (lv_at hl 2 rfl) ?_
            refine lv_iconst (v := 2) hx hb dX6_notes_102 (by decide) ?_
            obtain ⟨r94, k95, h135⟩ := ob1 h134
            clear h134
            refine g_vi F (cX6_ofPerson_ok l d cy m0 m1 m2 m3 m4 m5 m6 m7 m8 m9 m10 m_now m_tape m_typed m_place m_isFault m_readWet m_readHarvest m_read g88 x26 m_bestGain m_aside m_kept m_keptUndos m_isKept m_lanes m_sizes m_items m_moved v87 2 r94 k95) cal_X6_ofPerson t_808 rfl ⟨by decide, by decide⟩ hw (w' := wM cy m0 m1 m2 m3 m4 m5 m6 m7 m8 m9 m10 m_now m_tape m_typed m_place m_isFault m_readWet m_readHarvest m_read g88 x26 m_bestGain m_aside m_kept m_keptUndos m_isKept m_lanes m_sizes m_items m_moved) Cut.all 0 6 rfl rfl hl.1 (Nat.le_of_ble_eq_true rfl) rfl dX6_notes_103 (fun H locs hw => ?_)
            obtain ⟨j96, k97, h136⟩ := ob1 h135
            clear h135
            refine g_iast F hw 4 rfl k97 dX6_notes_106 (w' := wM cy m0 m1 m2 m3 m4 m5 m6 m7 m8 m9 m10 m_now m_tape m_typed m_place m_isFault m_readWet m_readHarvest m_read (upd g88 j96 r94) x26 m_bestGain m_aside m_kept m_keptUndos m_isKept m_lanes m_sizes m_items m_moved) rfl (fun H locs hw => ?_)
            refine lv_iinc (v := (v87 + 1)) (lv' := [(2, .int (v87 + 1)), (0, .ref m0), (1, .int (81 * x26))]) hx hb dX6_notes_107 hl (k := 2) rfl rfl (by decide) rfl (fun ls hl => ?_)
            refine lv_goto (tgt := 85) hx hb dX6_notes_110 (by decide) ?_
            exact ih90 (v87 + 1) (upd g88 j96 r94) _ _ _ hw (lv_sub hl [1, 2, 0] rfl) h136
      exact loop91 fl 0 q69 _ _ _ hw (lv_sub hl [1, 2, 0] rfl) h125
    clear h124
    have loop68 : ∀ (n : Nat) (v64 : Int32) (g65 : Nat → Int32) (H : Heap) (locs : List Loc) (ls : Array Slot), Wd d A s.heap (wM cy m0 m1 m2 m3 m4 m5 m6 m7 m8 m9 m10 m_now m_tape m_typed m_place m_isFault m_readWet m_readHarvest m_read g65 x26 m_bestGain m_aside m_kept m_keptUndos m_isKept m_lanes m_sizes m_items m_moved) H locs → lv_has ls 3 [(0, .ref m0), (1, .int (81 * x26)), (2, .int v64)] → fX6_notes_L56 m_now x26 n v64 g65 = some (q69) → W p l e (rmo 1 22) s m args below meth c H locs 0 0 Q (F0 m 56 ls []) := by
      intro n
      induction n with
      | zero =>
        intro v64 g65 H locs ls hw hl h137
        rw [fX6_notes_L56] at h137
        cases h137
      | succ n ih67 =>
        intro v64 g65 H locs ls hw hl h138
        rw [fX6_notes_L56] at h138
        refine lv_iload_n hx hb dX6_notes_56 rfl (lv_at hl 2 rfl) ?_
        refine lv_iconst (v := 3) hx hb dX6_notes_57 (by decide) ?_
        refine lv_icmp_ge (tgt := 83) hx hb dX6_notes_58 (by decide) (fun c70 => ?_) (fun c70 => ?_)
        · rw [if_pos c70] at h138
          obtain rfl := inj1 h138
          exact kont66 _ _ _ hw (lv_sub hl [0, 1] rfl)
        · rw [if_neg c70] at h138
          refine lv_aload_n hx hb dX6_notes_61 rfl (lv_at hl 0 rfl) ?_
          refine g_get F inG6 hw 0 rfl rfl 8 (by decide) t_738 (fun _ h9 => h9) rfl dX6_notes_62 ?_
          refine lv_iload_n hx hb dX6_notes_65 rfl (lv_at hl 1 rfl) ?_
          refine lv_iload_n hx hb dX6_notes_66 rfl (lv_at hl 2 rfl) ?_
          refine lv_iadd hx hb dX6_notes_67 ?_
          refine lv_aload_n hx hb dX6_notes_68 rfl (lv_at hl 0 rfl) ?_
          refine g_get F inG6 hw 0 rfl rfl 0 (by decide) t_730 (fun _ h9 => h9) rfl dX6_notes_69 ?_
          refine lv_iconst (v := 2) hx hb dX6_notes_72 (by decide) ?_
          refine lv_iload_n hx hb dX6_notes_73 rfl (lv_at hl 2 rfl) ?_
          refine lv_iadd hx hb dX6_notes_74 ?_
          obtain ⟨j71, k72, h139⟩ := ob1 h138
          clear h138
          refine g_iald F hw 1 rfl k72 dX6_notes_75 ?_
          obtain ⟨j73, k74, h140⟩ := ob1 h139
          clear h139
          refine g_iast F hw 4 rfl k74 dX6_notes_76 (w' := wM cy m0 m1 m2 m3 m4 m5 m6 m7 m8 m9 m10 m_now m_tape m_typed m_place m_isFault m_readWet m_readHarvest m_read (upd g65 j73 (m_now j71)) x26 m_bestGain m_aside m_kept m_keptUndos m_isKept m_lanes m_sizes m_items m_moved) rfl (fun H locs hw => ?_)
          refine lv_iinc (v := (v64 + 1)) (lv' := [(2, .int (v64 + 1)), (0, .ref m0), (1, .int (81 * x26))]) hx hb dX6_notes_77 hl (k := 2) rfl rfl (by decide) rfl (fun ls hl => ?_)
          refine lv_goto (tgt := 56) hx hb dX6_notes_80 (by decide) ?_
          exact ih67 (v64 + 1) (upd g65 j73 (m_now j71)) _ _ _ hw (lv_sub hl [1, 2, 0] rfl) h140
    exact loop68 fl 0 f25 _ _ _ hw (lv_sub hl [2, 1, 0] rfl) h123
  clear h122
  refine lv_icmp_ne (tgt := 46) hx hb dX6_notes_6 (by decide) (fun c28 => ?_) (fun c28 => ?_)
  · rw [if_neg c28] at h121
    obtain ⟨rfl, rfl⟩ := inj2 h121
    exact kont27 _ _ _ hw (lv_sub hl [0] rfl)
  · rw [if_pos c28] at h121
    refine lv_bipush (v := 81) hx hb dX6_notes_9 (by decide) ?_
    refine lv_istore_n (lv' := [(1, .int 81), (0, .ref m0)]) hx hb dX6_notes_11 rfl hl (by decide) rfl (fun ls hl => ?_)
    obtain ⟨q46, h141, h142⟩ := ob1 h121
    clear h121
    have kont43 : ∀ (H : Heap) (locs : List Loc) (ls : Array Slot), Wd d A s.heap (wM cy m0 m1 m2 m3 m4 m5 m6 m7 m8 m9 m10 m_now m_tape m_typed m_place m_isFault m_readWet m_readHarvest m_read q46 m_undos m_bestGain m_aside m_kept m_keptUndos m_isKept m_lanes m_sizes m_items m_moved) H locs → lv_has ls 3 [(0, .ref m0)] → W p l e (rmo 1 22) s m args below meth c H locs 0 0 Q (F0 m 40 ls []) := by
      intro H locs ls hw hl
      clear h141
      refine lv_aload_n hx hb dX6_notes_40 rfl (lv_at hl 0 rfl) ?_
      refine lv_bipush (v := 7) hx hb dX6_notes_41 (by decide) ?_
      refine g_put F inG6 tyX6 tyX6_ok nmX6 hw 0 rfl rfl 9 (by decide) t_739 (fun _ h9 => h9) rfl (ty := .int) (by decide +kernel) rfl rfl (Nat.le_of_ble_eq_true rfl) dX6_notes_43 (w' := wM cy m0 m1 m2 m3 m4 m5 m6 m7 m8 m9 m10 m_now m_tape m_typed m_place m_isFault m_readWet m_readHarvest m_read q46 7 m_bestGain m_aside m_kept m_keptUndos m_isKept m_lanes m_sizes m_items m_moved) rfl (fun H locs hw => ?_)
      obtain ⟨rfl, rfl⟩ := inj2 h142
      exact kont27 _ _ _ hw (lv_sub hl [0] rfl)
    clear h142
    have loop45 : ∀ (n : Nat) (v41 : Int32) (g42 : Nat → Int32) (H : Heap) (locs : List Loc) (ls : Array Slot), Wd d A s.heap (wM cy m0 m1 m2 m3 m4 m5 m6 m7 m8 m9 m10 m_now m_tape m_typed m_place m_isFault m_readWet m_readHarvest m_read g42 m_undos m_bestGain m_aside m_kept m_keptUndos m_isKept m_lanes m_sizes m_items m_moved) H locs → lv_has ls 3 [(0, .ref m0), (1, .int v41)] → fX6_notes_L12 n v41 g42 = some (q46) → W p l e (rmo 1 22) s m args below meth c H locs 0 0 Q (F0 m 12 ls []) := by
      intro n
      induction n with
      | zero =>
        intro v41 g42 H locs ls hw hl h143
        rw [fX6_notes_L12] at h143
        cases h143
      | succ n ih44 =>
        intro v41 g42 H locs ls hw hl h144
        rw [fX6_notes_L12] at h144
        refine lv_iload_n hx hb dX6_notes_12 rfl (lv_at hl 1 rfl) ?_
        refine lv_sipush (v := 648) hx hb dX6_notes_13 (by decide) ?_
        refine lv_icmp_ge (tgt := 40) hx hb dX6_notes_16 (by decide) (fun c47 => ?_) (fun c47 => ?_)
        · rw [if_pos c47] at h144
          obtain rfl := inj1 h144
          exact kont43 _ _ _ hw (lv_sub hl [0] rfl)
        · rw [if_neg c47] at h144
          refine lv_aload_n hx hb dX6_notes_19 rfl (lv_at hl 0 rfl) ?_
          refine g_get F inG6 hw 0 rfl rfl 8 (by decide) t_738 (fun _ h9 => h9) rfl dX6_notes_20 ?_
          refine lv_iload_n hx hb dX6_notes_23 rfl (lv_at hl 1 rfl) ?_
          refine lv_bipush (v := 81) hx hb dX6_notes_24 (by decide) ?_
          refine lv_isub hx hb dX6_notes_26 ?_
          refine lv_aload_n hx hb dX6_notes_27 rfl (lv_at hl 0 rfl) ?_
          refine g_get F inG6 hw 0 rfl rfl 8 (by decide) t_738 (fun _ h9 => h9) rfl dX6_notes_28 ?_
          refine lv_iload_n hx hb dX6_notes_31 rfl (lv_at hl 1 rfl) ?_
          obtain ⟨j48, k49, h145⟩ := ob1 h144
          clear h144
          refine g_iald F hw 4 rfl k49 dX6_notes_32 ?_
          obtain ⟨j50, k51, h146⟩ := ob1 h145
          clear h145
          refine g_iast F hw 4 rfl k51 dX6_notes_33 (w' := wM cy m0 m1 m2 m3 m4 m5 m6 m7 m8 m9 m10 m_now m_tape m_typed m_place m_isFault m_readWet m_readHarvest m_read (upd g42 j50 (g42 j48)) m_undos m_bestGain m_aside m_kept m_keptUndos m_isKept m_lanes m_sizes m_items m_moved) rfl (fun H locs hw => ?_)
          refine lv_iinc (v := (v41 + 1)) (lv' := [(1, .int (v41 + 1)), (0, .ref m0)]) hx hb dX6_notes_34 hl (k := 1) rfl rfl (by decide) rfl (fun ls hl => ?_)
          refine lv_goto (tgt := 12) hx hb dX6_notes_37 (by decide) ?_
          exact ih44 (v41 + 1) (upd g42 j50 (g42 j48)) _ _ _ hw (lv_sub hl [1, 0] rfl) h146
    exact loop45 fl 81 m_undone _ _ _ hw (lv_sub hl [1, 0] rfl) h141
theorem cal_X6_maySell : CalV yX6_maySell cX6_maySell 3 (some .boolean) RX6 2 := ⟨t_930, t_929, t_24, t_43, by decide +kernel⟩
set_option maxHeartbeats 4000000 in
set_option maxRecDepth 100000 in
theorem cX6_maySell_ok (l : Launch) (d : va_G) (cy : Nat → ClassId) (m0 m1 m2 m3 m4 m5 m6 m7 m8 m9 m10 : Nat) (m_now : Nat → Int32) (m_tape : Nat → Int32) (m_typed : Int32) (m_place : Int32) (m_isFault : Int32) (m_readWet : Int32) (m_readHarvest : Int32) (m_read : Nat → Int32) (m_undone : Nat → Int32) (m_undos : Int32) (m_bestGain : Int32) (m_aside : Nat → Int32) (m_kept : Nat → Int32) (m_keptUndos : Int32) (m_isKept : Int32) (m_lanes : Nat → Int32) (m_sizes : Nat → Int32) (m_items : Nat → Int64) (m_moved : Nat → Int64) (i1 : Int32) (i2 : Int32) (r : Int32) (h0 : fX6_maySell m_now i1 i2 = some (r)) : CI l yX6_maySell cX6_maySell 3 (some .boolean) 3 67 d cy [.ref m0, .int i1, .int i2] (wM cy m0 m1 m2 m3 m4 m5 m6 m7 m8 m9 m10 m_now m_tape m_typed m_place m_isFault m_readWet m_readHarvest m_read m_undone m_undos m_bestGain m_aside m_kept m_keptUndos m_isKept m_lanes m_sizes m_items m_moved) (wM cy m0 m1 m2 m3 m4 m5 m6 m7 m8 m9 m10 m_now m_tape m_typed m_place m_isFault m_readWet m_readHarvest m_read m_undone m_undos m_bestGain m_aside m_kept m_keptUndos m_isKept m_lanes m_sizes m_items m_moved) r := by
  refine CZ.of (by decide) (Nat.le_of_ble_eq_true rfl) ?_
  intro p e s m args below meth c A ls Q F hret hw hl
  have hx := F.1
  have hb := F.2.1
  have hl : lv_has ls 3 [(0, .ref m0), (1, .int i1), (2, .int i2)] := hl
  rw [fX6_maySell] at h0
  refine lv_aload_n hx hb dX6_maySell_0 rfl (lv_at hl 0 rfl) ?_
  refine lv_iload_n hx hb dX6_maySell_1 rfl (lv_at hl 1 rfl) ?_
  refine lv_iload_n hx hb dX6_maySell_2 rfl (lv_at hl 2 rfl) ?_
  obtain ⟨r1, k2, h14⟩ := ob1 h0
  clear h0
  refine g_vi F (cX6_hasOne_ok l d cy m0 m1 m2 m3 m4 m5 m6 m7 m8 m9 m10 m_now m_tape m_typed m_place m_isFault m_readWet m_readHarvest m_read m_undone m_undos m_bestGain m_aside m_kept m_keptUndos m_isKept m_lanes m_sizes m_items m_moved i1 i2 r1 k2) cal_X6_hasOne t_826 rfl ⟨by decide, by decide⟩ hw (w' := wM cy m0 m1 m2 m3 m4 m5 m6 m7 m8 m9 m10 m_now m_tape m_typed m_place m_isFault m_readWet m_readHarvest m_read m_undone m_undos m_bestGain m_aside m_kept m_keptUndos m_isKept m_lanes m_sizes m_items m_moved) Cut.all 0 6 rfl rfl hl.1 (Nat.le_of_ble_eq_true rfl) rfl dX6_maySell_3 (fun H locs hw => ?_)
  refine lv_if_eq (tgt := 40) hx hb dX6_maySell_6 (by decide) (fun c3 => ?_) (fun c3 => ?_)
  · rw [if_pos c3] at h14
    refine lv_iconst (v := 0) hx hb dX6_maySell_40 (by decide) ?_
    obtain rfl := inj1 h14
    exact hret _ _ _ _ rfl hw dX6_maySell_41
  · rw [if_neg c3] at h14
    refine lv_aload_n hx hb dX6_maySell_9 rfl (lv_at hl 0 rfl) ?_
    refine lv_iload_n hx hb dX6_maySell_10 rfl (lv_at hl 1 rfl) ?_
    obtain ⟨r4, k5, h15⟩ := ob1 h14
    clear h14
    refine g_vi F (cX6_halves_ok l d cy m0 m1 m2 m3 m4 m5 m6 m7 m8 m9 m10 m_now m_tape m_typed m_place m_isFault m_readWet m_readHarvest m_read m_undone m_undos m_bestGain m_aside m_kept m_keptUndos m_isKept m_lanes m_sizes m_items m_moved i1 r4 k5) cal_X6_halves t_822 rfl ⟨by decide, by decide⟩ hw (w' := wM cy m0 m1 m2 m3 m4 m5 m6 m7 m8 m9 m10 m_now m_tape m_typed m_place m_isFault m_readWet m_readHarvest m_read m_undone m_undos m_bestGain m_aside m_kept m_keptUndos m_isKept m_lanes m_sizes m_items m_moved) Cut.all 0 6 rfl rfl hl.1 (Nat.le_of_ble_eq_true rfl) rfl dX6_maySell_11 (fun H locs hw => ?_)
    obtain ⟨r6, k7, h16⟩ := ob1 h15
    clear h15
    refine g_si F (cX6_many_ok l d cy r4 r6 k7) cal_X6_many t_931 rfl ⟨by decide, by decide⟩ hw (w' := wM cy m0 m1 m2 m3 m4 m5 m6 m7 m8 m9 m10 m_now m_tape m_typed m_place m_isFault m_readWet m_readHarvest m_read m_undone m_undos m_bestGain m_aside m_kept m_keptUndos m_isKept m_lanes m_sizes m_items m_moved) Cut.nil hl.1 (Nat.le_of_ble_eq_true rfl) rfl dX6_maySell_14 (fun H locs hw => ?_)
    refine lv_aload_n hx hb dX6_maySell_17 rfl (lv_at hl 0 rfl) ?_
    refine g_get F inG6 hw 0 rfl rfl 0 (by decide) t_730 (fun _ h9 => h9) rfl dX6_maySell_18 ?_
    refine lv_iconst (v := 1) hx hb dX6_maySell_21 (by decide) ?_
    obtain ⟨j8, k9, h17⟩ := ob1 h16
    clear h16
    refine g_iald F hw 1 rfl k9 dX6_maySell_22 ?_
    refine lv_icmp_gt (tgt := 36) hx hb dX6_maySell_23 (by decide) (fun c10 => ?_) (fun c10 => ?_)
    · rw [if_pos c10] at h17
      refine lv_iconst (v := 1) hx hb dX6_maySell_36 (by decide) ?_
      refine lv_goto (tgt := 41) hx hb dX6_maySell_37 (by decide) ?_
      obtain rfl := inj1 h17
      exact hret _ _ _ _ rfl hw dX6_maySell_41
    · rw [if_neg c10] at h17
      refine lv_aload_n hx hb dX6_maySell_26 rfl (lv_at hl 0 rfl) ?_
      refine lv_iload_n hx hb dX6_maySell_27 rfl (lv_at hl 1 rfl) ?_
      refine lv_iload_n hx hb dX6_maySell_28 rfl (lv_at hl 2 rfl) ?_
      obtain ⟨r11, k12, h18⟩ := ob1 h17
      clear h17
      refine g_vi F (cX6_manyOf_ok l d cy m0 m1 m2 m3 m4 m5 m6 m7 m8 m9 m10 m_now m_tape m_typed m_place m_isFault m_readWet m_readHarvest m_read m_undone m_undos m_bestGain m_aside m_kept m_keptUndos m_isKept m_lanes m_sizes m_items m_moved i1 i2 r11 k12) cal_X6_manyOf t_830 rfl ⟨by decide, by decide⟩ hw (w' := wM cy m0 m1 m2 m3 m4 m5 m6 m7 m8 m9 m10 m_now m_tape m_typed m_place m_isFault m_readWet m_readHarvest m_read m_undone m_undos m_bestGain m_aside m_kept m_keptUndos m_isKept m_lanes m_sizes m_items m_moved) Cut.all 0 6 rfl rfl hl.1 (Nat.le_of_ble_eq_true rfl) rfl dX6_maySell_29 (fun H locs hw => ?_)
      refine lv_iconst (v := 1) hx hb dX6_maySell_32 (by decide) ?_
      refine lv_icmp_le (tgt := 40) hx hb dX6_maySell_33 (by decide) (fun c13 => ?_) (fun c13 => ?_)
      · rw [if_pos c13] at h18
        refine lv_iconst (v := 0) hx hb dX6_maySell_40 (by decide) ?_
        obtain rfl := inj1 h18
        exact hret _ _ _ _ rfl hw dX6_maySell_41
      · rw [if_neg c13] at h18
        refine lv_iconst (v := 1) hx hb dX6_maySell_36 (by decide) ?_
        refine lv_goto (tgt := 41) hx hb dX6_maySell_37 (by decide) ?_
        obtain rfl := inj1 h18
        exact hret _ _ _ _ rfl hw dX6_maySell_41
theorem cal_X6_goes : CalV yX6_goes cX6_goes 4 none RX6 3 := ⟨t_941, t_940, t_26, t_43, by decide +kernel⟩
set_option maxHeartbeats 4000000 in
set_option maxRecDepth 100000 in
theorem cX6_goes_ok (l : Launch) (d : va_G) (cy : Nat → ClassId) (m0 m1 m2 m3 m4 m5 m6 m7 m8 m9 m10 : Nat) (m_now : Nat → Int32) (m_tape : Nat → Int32) (m_typed : Int32) (m_place : Int32) (m_isFault : Int32) (m_readWet : Int32) (m_readHarvest : Int32) (m_read : Nat → Int32) (m_undone : Nat → Int32) (m_undos : Int32) (m_bestGain : Int32) (m_aside : Nat → Int32) (m_kept : Nat → Int32) (m_keptUndos : Int32) (m_isKept : Int32) (m_lanes : Nat → Int32) (m_sizes : Nat → Int32) (m_items : Nat → Int64) (m_moved : Nat → Int64) (i1 : Int32) (i2 : Int32) (i3 : Int32) (m_now_r : Nat → Int32) (h0 : fX6_goes m_now i1 i2 i3 = some (m_now_r)) : CV l yX6_goes cX6_goes 4 none 1 23 d cy [.ref m0, .int i1, .int i2, .int i3] (wM cy m0 m1 m2 m3 m4 m5 m6 m7 m8 m9 m10 m_now m_tape m_typed m_place m_isFault m_readWet m_readHarvest m_read m_undone m_undos m_bestGain m_aside m_kept m_keptUndos m_isKept m_lanes m_sizes m_items m_moved) (wM cy m0 m1 m2 m3 m4 m5 m6 m7 m8 m9 m10 m_now_r m_tape m_typed m_place m_isFault m_readWet m_readHarvest m_read m_undone m_undos m_bestGain m_aside m_kept m_keptUndos m_isKept m_lanes m_sizes m_items m_moved) := by
  refine CV.of (by decide) (Nat.le_of_ble_eq_true rfl) ?_
  intro p e s m args below meth c A ls Q F hret hw hl
  have hx := F.1
  have hb := F.2.1
  have hl : lv_has ls 4 [(0, .ref m0), (1, .int i1), (2, .int i2), (3, .int i3)] := hl
  rw [fX6_goes] at h0
  refine lv_aload_n hx hb dX6_goes_0 rfl (lv_at hl 0 rfl) ?_
  refine lv_iload_n hx hb dX6_goes_1 rfl (lv_at hl 1 rfl) ?_
  refine lv_iload_n hx hb dX6_goes_2 rfl (lv_at hl 3 rfl) ?_
  refine lv_iconst (v := (-1)) hx hb dX6_goes_3 (by decide) ?_
  obtain ⟨f1, k2, h5⟩ := ob1 h0
  clear h0
  refine g_vv F (cX6_gets_ok l d cy m0 m1 m2 m3 m4 m5 m6 m7 m8 m9 m10 m_now m_tape m_typed m_place m_isFault m_readWet m_readHarvest m_read m_undone m_undos m_bestGain m_aside m_kept m_keptUndos m_isKept m_lanes m_sizes m_items m_moved i1 i3 (-1) f1 k2) cal_X6_gets t_914 rfl ⟨by decide, by decide⟩ hw (w' := wM cy m0 m1 m2 m3 m4 m5 m6 m7 m8 m9 m10 f1 m_tape m_typed m_place m_isFault m_readWet m_readHarvest m_read m_undone m_undos m_bestGain m_aside m_kept m_keptUndos m_isKept m_lanes m_sizes m_items m_moved) Cut.all 0 6 rfl rfl hl.1 (Nat.le_of_ble_eq_true rfl) rfl dX6_goes_4 (fun H locs hw => ?_)
  refine lv_aload_n hx hb dX6_goes_7 rfl (lv_at hl 0 rfl) ?_
  refine lv_iload_n hx hb dX6_goes_8 rfl (lv_at hl 2 rfl) ?_
  refine lv_iload_n hx hb dX6_goes_9 rfl (lv_at hl 3 rfl) ?_
  refine lv_iconst (v := 1) hx hb dX6_goes_10 (by decide) ?_
  obtain ⟨f3, k4, h6⟩ := ob1 h5
  clear h5
  refine g_vv F (cX6_gets_ok l d cy m0 m1 m2 m3 m4 m5 m6 m7 m8 m9 m10 f1 m_tape m_typed m_place m_isFault m_readWet m_readHarvest m_read m_undone m_undos m_bestGain m_aside m_kept m_keptUndos m_isKept m_lanes m_sizes m_items m_moved i2 i3 1 f3 k4) cal_X6_gets t_914 rfl ⟨by decide, by decide⟩ hw (w' := wM cy m0 m1 m2 m3 m4 m5 m6 m7 m8 m9 m10 f3 m_tape m_typed m_place m_isFault m_readWet m_readHarvest m_read m_undone m_undos m_bestGain m_aside m_kept m_keptUndos m_isKept m_lanes m_sizes m_items m_moved) Cut.all 0 6 rfl rfl hl.1 (Nat.le_of_ble_eq_true rfl) rfl dX6_goes_11 (fun H locs hw => ?_)
  obtain rfl := inj1 h6
  exact hret _ _ _ _ hw dX6_goes_14
theorem cal_X6_areTwo : CalV yX6_areTwo cX6_areTwo 3 (some .boolean) RX6 2 := ⟨t_925, t_924, t_23, t_43, by decide +kernel⟩
set_option maxHeartbeats 4000000 in
set_option maxRecDepth 100000 in
theorem cX6_areTwo_ok (l : Launch) (d : va_G) (cy : Nat → ClassId) (m0 m1 m2 m3 m4 m5 m6 m7 m8 m9 m10 : Nat) (m_now : Nat → Int32) (m_tape : Nat → Int32) (m_typed : Int32) (m_place : Int32) (m_isFault : Int32) (m_readWet : Int32) (m_readHarvest : Int32) (m_read : Nat → Int32) (m_undone : Nat → Int32) (m_undos : Int32) (m_bestGain : Int32) (m_aside : Nat → Int32) (m_kept : Nat → Int32) (m_keptUndos : Int32) (m_isKept : Int32) (m_lanes : Nat → Int32) (m_sizes : Nat → Int32) (m_items : Nat → Int64) (m_moved : Nat → Int64) (i1 : Int32) (i2 : Int32) (r : Int32) (h0 : fX6_areTwo m_now i1 i2 = some (r)) : CI l yX6_areTwo cX6_areTwo 3 (some .boolean) 2 46 d cy [.ref m0, .int i1, .int i2] (wM cy m0 m1 m2 m3 m4 m5 m6 m7 m8 m9 m10 m_now m_tape m_typed m_place m_isFault m_readWet m_readHarvest m_read m_undone m_undos m_bestGain m_aside m_kept m_keptUndos m_isKept m_lanes m_sizes m_items m_moved) (wM cy m0 m1 m2 m3 m4 m5 m6 m7 m8 m9 m10 m_now m_tape m_typed m_place m_isFault m_readWet m_readHarvest m_read m_undone m_undos m_bestGain m_aside m_kept m_keptUndos m_isKept m_lanes m_sizes m_items m_moved) r := by
  refine CZ.of (by decide) (Nat.le_of_ble_eq_true rfl) ?_
  intro p e s m args below meth c A ls Q F hret hw hl
  have hx := F.1
  have hb := F.2.1
  have hl : lv_has ls 3 [(0, .ref m0), (1, .int i1), (2, .int i2)] := hl
  rw [fX6_areTwo] at h0
  refine lv_aload_n hx hb dX6_areTwo_0 rfl (lv_at hl 0 rfl) ?_
  refine lv_iload_n hx hb dX6_areTwo_1 rfl (lv_at hl 1 rfl) ?_
  obtain ⟨r1, k2, h8⟩ := ob1 h0
  clear h0
  refine g_vi F (cX6_isPerson_ok l d cy m0 m1 m2 m3 m4 m5 m6 m7 m8 m9 m10 m_now m_tape m_typed m_place m_isFault m_readWet m_readHarvest m_read m_undone m_undos m_bestGain m_aside m_kept m_keptUndos m_isKept m_lanes m_sizes m_items m_moved i1 r1 k2) cal_X6_isPerson t_804 rfl ⟨by decide, by decide⟩ hw (w' := wM cy m0 m1 m2 m3 m4 m5 m6 m7 m8 m9 m10 m_now m_tape m_typed m_place m_isFault m_readWet m_readHarvest m_read m_undone m_undos m_bestGain m_aside m_kept m_keptUndos m_isKept m_lanes m_sizes m_items m_moved) Cut.all 0 6 rfl rfl hl.1 (Nat.le_of_ble_eq_true rfl) rfl dX6_areTwo_2 (fun H locs hw => ?_)
  refine lv_if_eq (tgt := 25) hx hb dX6_areTwo_5 (by decide) (fun c3 => ?_) (fun c3 => ?_)
  · rw [if_pos c3] at h8
    refine lv_iconst (v := 0) hx hb dX6_areTwo_25 (by decide) ?_
    obtain rfl := inj1 h8
    exact hret _ _ _ _ rfl hw dX6_areTwo_26
  · rw [if_neg c3] at h8
    refine lv_aload_n hx hb dX6_areTwo_8 rfl (lv_at hl 0 rfl) ?_
    refine lv_iload_n hx hb dX6_areTwo_9 rfl (lv_at hl 2 rfl) ?_
    obtain ⟨r4, k5, h9⟩ := ob1 h8
    clear h8
    refine g_vi F (cX6_isPerson_ok l d cy m0 m1 m2 m3 m4 m5 m6 m7 m8 m9 m10 m_now m_tape m_typed m_place m_isFault m_readWet m_readHarvest m_read m_undone m_undos m_bestGain m_aside m_kept m_keptUndos m_isKept m_lanes m_sizes m_items m_moved i2 r4 k5) cal_X6_isPerson t_804 rfl ⟨by decide, by decide⟩ hw (w' := wM cy m0 m1 m2 m3 m4 m5 m6 m7 m8 m9 m10 m_now m_tape m_typed m_place m_isFault m_readWet m_readHarvest m_read m_undone m_undos m_bestGain m_aside m_kept m_keptUndos m_isKept m_lanes m_sizes m_items m_moved) Cut.all 0 6 rfl rfl hl.1 (Nat.le_of_ble_eq_true rfl) rfl dX6_areTwo_10 (fun H locs hw => ?_)
    refine lv_if_eq (tgt := 25) hx hb dX6_areTwo_13 (by decide) (fun c6 => ?_) (fun c6 => ?_)
    · rw [if_pos c6] at h9
      refine lv_iconst (v := 0) hx hb dX6_areTwo_25 (by decide) ?_
      obtain rfl := inj1 h9
      exact hret _ _ _ _ rfl hw dX6_areTwo_26
    · rw [if_neg c6] at h9
      refine lv_iload_n hx hb dX6_areTwo_16 rfl (lv_at hl 1 rfl) ?_
      refine lv_iload_n hx hb dX6_areTwo_17 rfl (lv_at hl 2 rfl) ?_
      refine lv_icmp_eq (tgt := 25) hx hb dX6_areTwo_18 (by decide) (fun c7 => ?_) (fun c7 => ?_)
      · rw [if_pos c7] at h9
        refine lv_iconst (v := 0) hx hb dX6_areTwo_25 (by decide) ?_
        obtain rfl := inj1 h9
        exact hret _ _ _ _ rfl hw dX6_areTwo_26
      · rw [if_neg c7] at h9
        refine lv_iconst (v := 1) hx hb dX6_areTwo_21 (by decide) ?_
        refine lv_goto (tgt := 26) hx hb dX6_areTwo_22 (by decide) ?_
        obtain rfl := inj1 h9
        exact hret _ _ _ _ rfl hw dX6_areTwo_26
theorem cal_X6_sell : CalV yX6_sell cX6_sell 5 (some .int) RX6 4 := ⟨t_921, t_919, t_920, t_43, by decide +kernel⟩
set_option maxHeartbeats 4000000 in
set_option maxRecDepth 100000 in
theorem cX6_sell_ok (l : Launch) (d : va_G) (cy : Nat → ClassId) (m0 m1 m2 m3 m4 m5 m6 m7 m8 m9 m10 : Nat) (m_now : Nat → Int32) (m_tape : Nat → Int32) (m_typed : Int32) (m_place : Int32) (m_isFault : Int32) (m_readWet : Int32) (m_readHarvest : Int32) (m_read : Nat → Int32) (m_undone : Nat → Int32) (m_undos : Int32) (m_bestGain : Int32) (m_aside : Nat → Int32) (m_kept : Nat → Int32) (m_keptUndos : Int32) (m_isKept : Int32) (m_lanes : Nat → Int32) (m_sizes : Nat → Int32) (m_items : Nat → Int64) (m_moved : Nat → Int64) (i1 : Int32) (i2 : Int32) (i3 : Int32) (i4 : Int32) (r : Int32) (m_now_r : Nat → Int32) (m_undone_r : Nat → Int32) (m_undos_r : Int32) (h0 : fX6_sell m_now m_undone m_undos i1 i2 i3 i4 = some (r, m_now_r, m_undone_r, m_undos_r)) : CI l yX6_sell cX6_sell 5 (some .int) 4 89 d cy [.ref m0, .int i1, .int i2, .int i3, .int i4] (wM cy m0 m1 m2 m3 m4 m5 m6 m7 m8 m9 m10 m_now m_tape m_typed m_place m_isFault m_readWet m_readHarvest m_read m_undone m_undos m_bestGain m_aside m_kept m_keptUndos m_isKept m_lanes m_sizes m_items m_moved) (wM cy m0 m1 m2 m3 m4 m5 m6 m7 m8 m9 m10 m_now_r m_tape m_typed m_place m_isFault m_readWet m_readHarvest m_read m_undone_r m_undos_r m_bestGain m_aside m_kept m_keptUndos m_isKept m_lanes m_sizes m_items m_moved) r := by
  refine CI.of (by decide) (Nat.le_of_ble_eq_true rfl) ?_
  intro p e s m args below meth c A ls Q F hret hw hl
  have hx := F.1
  have hb := F.2.1
  have hl : lv_has ls 5 [(0, .ref m0), (1, .int i1), (2, .int i2), (3, .int i3), (4, .int i4)] := hl
  rw [fX6_sell] at h0
  refine lv_aload_n hx hb dX6_sell_0 rfl (lv_at hl 0 rfl) ?_
  refine lv_iload_n hx hb dX6_sell_1 rfl (lv_at hl 1 rfl) ?_
  refine lv_iload_n hx hb dX6_sell_2 rfl (lv_at hl 2 rfl) ?_
  obtain ⟨r1, k2, h27⟩ := ob1 h0
  clear h0
  refine g_vi F (cX6_areTwo_ok l d cy m0 m1 m2 m3 m4 m5 m6 m7 m8 m9 m10 m_now m_tape m_typed m_place m_isFault m_readWet m_readHarvest m_read m_undone m_undos m_bestGain m_aside m_kept m_keptUndos m_isKept m_lanes m_sizes m_items m_moved i1 i2 r1 k2) cal_X6_areTwo t_922 rfl ⟨by decide, by decide⟩ hw (w' := wM cy m0 m1 m2 m3 m4 m5 m6 m7 m8 m9 m10 m_now m_tape m_typed m_place m_isFault m_readWet m_readHarvest m_read m_undone m_undos m_bestGain m_aside m_kept m_keptUndos m_isKept m_lanes m_sizes m_items m_moved) Cut.all 0 6 rfl rfl hl.1 (Nat.le_of_ble_eq_true rfl) rfl dX6_sell_3 (fun H locs hw => ?_)
  refine lv_if_eq (tgt := 29) hx hb dX6_sell_6 (by decide) (fun c3 => ?_) (fun c3 => ?_)
  · rw [if_pos c3] at h27
    refine lv_iconst (v := (-1)) hx hb dX6_sell_29 (by decide) ?_
    obtain ⟨rfl, rfl, rfl, rfl⟩ := inj4 h27
    exact hret _ _ _ _ hw dX6_sell_30
  · rw [if_neg c3] at h27
    refine lv_iload_n hx hb dX6_sell_9 rfl (lv_at hl 3 rfl) ?_
    obtain ⟨r4, k5, h28⟩ := ob1 h27
    clear h27
    refine g_si F (cX6_isHalf_ok l d cy i3 r4 k5) cal_X6_isHalf t_854 rfl ⟨by decide, by decide⟩ hw (w' := wM cy m0 m1 m2 m3 m4 m5 m6 m7 m8 m9 m10 m_now m_tape m_typed m_place m_isFault m_readWet m_readHarvest m_read m_undone m_undos m_bestGain m_aside m_kept m_keptUndos m_isKept m_lanes m_sizes m_items m_moved) Cut.nil hl.1 (Nat.le_of_ble_eq_true rfl) rfl dX6_sell_10 (fun H locs hw => ?_)
    refine lv_if_eq (tgt := 29) hx hb dX6_sell_13 (by decide) (fun c6 => ?_) (fun c6 => ?_)
    · rw [if_pos c6] at h28
      refine lv_iconst (v := (-1)) hx hb dX6_sell_29 (by decide) ?_
      obtain ⟨rfl, rfl, rfl, rfl⟩ := inj4 h28
      exact hret _ _ _ _ hw dX6_sell_30
    · rw [if_neg c6] at h28
      refine lv_iload hx hb dX6_sell_16 (lv_at hl 4 rfl) ?_
      refine lv_i2l hx hb dX6_sell_18 rfl ?_
      refine lv_lconst (v := 0) hx hb dX6_sell_19 (by decide) ?_
      refine lv_ldc2 (v := 99) hx hb F.2.2.2.2.2.1 (F.2.2.2.2.2.2.1 _ t_926) dX6_sell_20 ?_
      obtain ⟨r7, k8, h29⟩ := ob1 h28
      clear h28
      refine g_si F (cX6_in_ok l d cy (Int32.toInt64 i4) 0 99 r7 k8) cal_X6_in t_793 rfl ⟨by decide, by decide⟩ hw (w' := wM cy m0 m1 m2 m3 m4 m5 m6 m7 m8 m9 m10 m_now m_tape m_typed m_place m_isFault m_readWet m_readHarvest m_read m_undone m_undos m_bestGain m_aside m_kept m_keptUndos m_isKept m_lanes m_sizes m_items m_moved) Cut.nil hl.1 (Nat.le_of_ble_eq_true rfl) rfl dX6_sell_23 (fun H locs hw => ?_)
      refine lv_if_ne (tgt := 31) hx hb dX6_sell_26 (by decide) (fun c9 => ?_) (fun c9 => ?_)
      · rw [if_neg c9] at h29
        refine lv_aload_n hx hb dX6_sell_31 rfl (lv_at hl 0 rfl) ?_
        refine lv_iload_n hx hb dX6_sell_32 rfl (lv_at hl 1 rfl) ?_
        refine lv_iload_n hx hb dX6_sell_33 rfl (lv_at hl 3 rfl) ?_
        obtain ⟨r10, k11, h30⟩ := ob1 h29
        clear h29
        refine g_vi F (cX6_maySell_ok l d cy m0 m1 m2 m3 m4 m5 m6 m7 m8 m9 m10 m_now m_tape m_typed m_place m_isFault m_readWet m_readHarvest m_read m_undone m_undos m_bestGain m_aside m_kept m_keptUndos m_isKept m_lanes m_sizes m_items m_moved i1 i3 r10 k11) cal_X6_maySell t_927 rfl ⟨by decide, by decide⟩ hw (w' := wM cy m0 m1 m2 m3 m4 m5 m6 m7 m8 m9 m10 m_now m_tape m_typed m_place m_isFault m_readWet m_readHarvest m_read m_undone m_undos m_bestGain m_aside m_kept m_keptUndos m_isKept m_lanes m_sizes m_items m_moved) Cut.all 0 6 rfl rfl hl.1 (Nat.le_of_ble_eq_true rfl) rfl dX6_sell_34 (fun H locs hw => ?_)
        refine lv_if_eq (tgt := 51) hx hb dX6_sell_37 (by decide) (fun c12 => ?_) (fun c12 => ?_)
        · rw [if_pos c12] at h30
          refine lv_bipush (v := (-2)) hx hb dX6_sell_51 (by decide) ?_
          obtain ⟨rfl, rfl, rfl, rfl⟩ := inj4 h30
          exact hret _ _ _ _ hw dX6_sell_53
        · rw [if_neg c12] at h30
          refine lv_aload_n hx hb dX6_sell_40 rfl (lv_at hl 0 rfl) ?_
          refine lv_iload_n hx hb dX6_sell_41 rfl (lv_at hl 2 rfl) ?_
          refine lv_iconst (v := 2) hx hb dX6_sell_42 (by decide) ?_
          obtain ⟨r13, k14, h31⟩ := ob1 h30
          clear h30
          refine g_vi F (cX6_ofPerson_ok l d cy m0 m1 m2 m3 m4 m5 m6 m7 m8 m9 m10 m_now m_tape m_typed m_place m_isFault m_readWet m_readHarvest m_read m_undone m_undos m_bestGain m_aside m_kept m_keptUndos m_isKept m_lanes m_sizes m_items m_moved i2 2 r13 k14) cal_X6_ofPerson t_808 rfl ⟨by decide, by decide⟩ hw (w' := wM cy m0 m1 m2 m3 m4 m5 m6 m7 m8 m9 m10 m_now m_tape m_typed m_place m_isFault m_readWet m_readHarvest m_read m_undone m_undos m_bestGain m_aside m_kept m_keptUndos m_isKept m_lanes m_sizes m_items m_moved) Cut.all 0 6 rfl rfl hl.1 (Nat.le_of_ble_eq_true rfl) rfl dX6_sell_43 (fun H locs hw => ?_)
          refine lv_iload hx hb dX6_sell_46 (lv_at hl 4 rfl) ?_
          refine lv_icmp_ge (tgt := 54) hx hb dX6_sell_48 (by decide) (fun c15 => ?_) (fun c15 => ?_)
          · rw [if_pos c15] at h31
            refine lv_aload_n hx hb dX6_sell_54 rfl (lv_at hl 0 rfl) ?_
            obtain ⟨f16, x17, k18, h32⟩ := ob2 h31
            clear h31
            refine g_vv F (cX6_notes_ok l d cy m0 m1 m2 m3 m4 m5 m6 m7 m8 m9 m10 m_now m_tape m_typed m_place m_isFault m_readWet m_readHarvest m_read m_undone m_undos m_bestGain m_aside m_kept m_keptUndos m_isKept m_lanes m_sizes m_items m_moved f16 x17 k18) cal_X6_notes t_934 rfl ⟨by decide, by decide⟩ hw (w' := wM cy m0 m1 m2 m3 m4 m5 m6 m7 m8 m9 m10 m_now m_tape m_typed m_place m_isFault m_readWet m_readHarvest m_read f16 x17 m_bestGain m_aside m_kept m_keptUndos m_isKept m_lanes m_sizes m_items m_moved) Cut.all 0 6 rfl rfl hl.1 (Nat.le_of_ble_eq_true rfl) rfl dX6_sell_55 (fun H locs hw => ?_)
            refine lv_aload_n hx hb dX6_sell_58 rfl (lv_at hl 0 rfl) ?_
            refine lv_iload_n hx hb dX6_sell_59 rfl (lv_at hl 1 rfl) ?_
            refine lv_iload_n hx hb dX6_sell_60 rfl (lv_at hl 2 rfl) ?_
            refine lv_iload_n hx hb dX6_sell_61 rfl (lv_at hl 3 rfl) ?_
            obtain ⟨f19, k20, h33⟩ := ob1 h32
            clear h32
            refine g_vv F (cX6_goes_ok l d cy m0 m1 m2 m3 m4 m5 m6 m7 m8 m9 m10 m_now m_tape m_typed m_place m_isFault m_readWet m_readHarvest m_read f16 x17 m_bestGain m_aside m_kept m_keptUndos m_isKept m_lanes m_sizes m_items m_moved i1 i2 i3 f19 k20) cal_X6_goes t_938 rfl ⟨by decide, by decide⟩ hw (w' := wM cy m0 m1 m2 m3 m4 m5 m6 m7 m8 m9 m10 f19 m_tape m_typed m_place m_isFault m_readWet m_readHarvest m_read f16 x17 m_bestGain m_aside m_kept m_keptUndos m_isKept m_lanes m_sizes m_items m_moved) Cut.all 0 6 rfl rfl hl.1 (Nat.le_of_ble_eq_true rfl) rfl dX6_sell_62 (fun H locs hw => ?_)
            refine lv_aload_n hx hb dX6_sell_65 rfl (lv_at hl 0 rfl) ?_
            refine lv_iload_n hx hb dX6_sell_66 rfl (lv_at hl 2 rfl) ?_
            refine lv_iload hx hb dX6_sell_67 (lv_at hl 4 rfl) ?_
            obtain ⟨f21, k22, h34⟩ := ob1 h33
            clear h33
            refine g_vv F (cX6_pays_ok l d cy m0 m1 m2 m3 m4 m5 m6 m7 m8 m9 m10 f19 m_tape m_typed m_place m_isFault m_readWet m_readHarvest m_read f16 x17 m_bestGain m_aside m_kept m_keptUndos m_isKept m_lanes m_sizes m_items m_moved i2 i4 f21 k22) cal_X6_pays t_942 rfl ⟨by decide, by decide⟩ hw (w' := wM cy m0 m1 m2 m3 m4 m5 m6 m7 m8 m9 m10 f21 m_tape m_typed m_place m_isFault m_readWet m_readHarvest m_read f16 x17 m_bestGain m_aside m_kept m_keptUndos m_isKept m_lanes m_sizes m_items m_moved) Cut.all 0 6 rfl rfl hl.1 (Nat.le_of_ble_eq_true rfl) rfl dX6_sell_69 (fun H locs hw => ?_)
            refine lv_aload_n hx hb dX6_sell_72 rfl (lv_at hl 0 rfl) ?_
            refine lv_iload_n hx hb dX6_sell_73 rfl (lv_at hl 1 rfl) ?_
            refine lv_iload hx hb dX6_sell_74 (lv_at hl 4 rfl) ?_
            refine lv_ineg hx hb dX6_sell_76 ?_
            obtain ⟨f23, k24, h35⟩ := ob1 h34
            clear h34
            refine g_vv F (cX6_pays_ok l d cy m0 m1 m2 m3 m4 m5 m6 m7 m8 m9 m10 f21 m_tape m_typed m_place m_isFault m_readWet m_readHarvest m_read f16 x17 m_bestGain m_aside m_kept m_keptUndos m_isKept m_lanes m_sizes m_items m_moved i1 (-i4) f23 k24) cal_X6_pays t_942 rfl ⟨by decide, by decide⟩ hw (w' := wM cy m0 m1 m2 m3 m4 m5 m6 m7 m8 m9 m10 f23 m_tape m_typed m_place m_isFault m_readWet m_readHarvest m_read f16 x17 m_bestGain m_aside m_kept m_keptUndos m_isKept m_lanes m_sizes m_items m_moved) Cut.all 0 6 rfl rfl hl.1 (Nat.le_of_ble_eq_true rfl) rfl dX6_sell_77 (fun H locs hw => ?_)
            refine lv_aload_n hx hb dX6_sell_80 rfl (lv_at hl 0 rfl) ?_
            refine lv_iload_n hx hb dX6_sell_81 rfl (lv_at hl 1 rfl) ?_
            refine lv_iconst (v := 2) hx hb dX6_sell_82 (by decide) ?_
            obtain ⟨r25, k26, h36⟩ := ob1 h35
            clear h35
            refine g_vi F (cX6_ofPerson_ok l d cy m0 m1 m2 m3 m4 m5 m6 m7 m8 m9 m10 f23 m_tape m_typed m_place m_isFault m_readWet m_readHarvest m_read f16 x17 m_bestGain m_aside m_kept m_keptUndos m_isKept m_lanes m_sizes m_items m_moved i1 2 r25 k26) cal_X6_ofPerson t_808 rfl ⟨by decide, by decide⟩ hw (w' := wM cy m0 m1 m2 m3 m4 m5 m6 m7 m8 m9 m10 f23 m_tape m_typed m_place m_isFault m_readWet m_readHarvest m_read f16 x17 m_bestGain m_aside m_kept m_keptUndos m_isKept m_lanes m_sizes m_items m_moved) Cut.all 0 6 rfl rfl hl.1 (Nat.le_of_ble_eq_true rfl) rfl dX6_sell_83 (fun H locs hw => ?_)
            obtain ⟨rfl, rfl, rfl, rfl⟩ := inj4 h36
            exact hret _ _ _ _ hw dX6_sell_86
          · rw [if_neg c15] at h31
            refine lv_bipush (v := (-2)) hx hb dX6_sell_51 (by decide) ?_
            obtain ⟨rfl, rfl, rfl, rfl⟩ := inj4 h31
            exact hret _ _ _ _ hw dX6_sell_53
      · rw [if_pos c9] at h29
        refine lv_iconst (v := (-1)) hx hb dX6_sell_29 (by decide) ?_
        obtain ⟨rfl, rfl, rfl, rfl⟩ := inj4 h29
        exact hret _ _ _ _ hw dX6_sell_30
theorem cal_X6_seize : CalV yX6_seize cX6_seize 5 (some .int) RX6 2 := ⟨t_949, t_947, t_948, t_43, by decide +kernel⟩
set_option maxHeartbeats 4000000 in
set_option maxRecDepth 100000 in
theorem cX6_seize_ok (l : Launch) (d : va_G) (cy : Nat → ClassId) (m0 m1 m2 m3 m4 m5 m6 m7 m8 m9 m10 : Nat) (m_now : Nat → Int32) (m_tape : Nat → Int32) (m_typed : Int32) (m_place : Int32) (m_isFault : Int32) (m_readWet : Int32) (m_readHarvest : Int32) (m_read : Nat → Int32) (m_undone : Nat → Int32) (m_undos : Int32) (m_bestGain : Int32) (m_aside : Nat → Int32) (m_kept : Nat → Int32) (m_keptUndos : Int32) (m_isKept : Int32) (m_lanes : Nat → Int32) (m_sizes : Nat → Int32) (m_items : Nat → Int64) (m_moved : Nat → Int64) (i1 : Int32) (i2 : Int32) (r : Int32) (m_now_r : Nat → Int32) (m_undone_r : Nat → Int32) (m_undos_r : Int32) (h0 : fX6_seize m_now m_undone m_undos i1 i2 = some (r, m_now_r, m_undone_r, m_undos_r)) : CI l yX6_seize cX6_seize 5 (some .int) 4 93 d cy [.ref m0, .int i1, .int i2] (wM cy m0 m1 m2 m3 m4 m5 m6 m7 m8 m9 m10 m_now m_tape m_typed m_place m_isFault m_readWet m_readHarvest m_read m_undone m_undos m_bestGain m_aside m_kept m_keptUndos m_isKept m_lanes m_sizes m_items m_moved) (wM cy m0 m1 m2 m3 m4 m5 m6 m7 m8 m9 m10 m_now_r m_tape m_typed m_place m_isFault m_readWet m_readHarvest m_read m_undone_r m_undos_r m_bestGain m_aside m_kept m_keptUndos m_isKept m_lanes m_sizes m_items m_moved) r := by
  refine CI.of (by decide) (Nat.le_of_ble_eq_true rfl) ?_
  intro p e s m args below meth c A ls Q F hret hw hl
  have hx := F.1
  have hb := F.2.1
  have hl : lv_has ls 5 [(0, .ref m0), (1, .int i1), (2, .int i2)] := hl
  rw [fX6_seize] at h0
  refine lv_aload_n hx hb dX6_seize_0 rfl (lv_at hl 0 rfl) ?_
  refine lv_iload_n hx hb dX6_seize_1 rfl (lv_at hl 1 rfl) ?_
  refine lv_iload_n hx hb dX6_seize_2 rfl (lv_at hl 2 rfl) ?_
  obtain ⟨r1, k2, h75⟩ := ob1 h0
  clear h0
  refine g_vi F (cX6_areTwo_ok l d cy m0 m1 m2 m3 m4 m5 m6 m7 m8 m9 m10 m_now m_tape m_typed m_place m_isFault m_readWet m_readHarvest m_read m_undone m_undos m_bestGain m_aside m_kept m_keptUndos m_isKept m_lanes m_sizes m_items m_moved i1 i2 r1 k2) cal_X6_areTwo t_922 rfl ⟨by decide, by decide⟩ hw (w' := wM cy m0 m1 m2 m3 m4 m5 m6 m7 m8 m9 m10 m_now m_tape m_typed m_place m_isFault m_readWet m_readHarvest m_read m_undone m_undos m_bestGain m_aside m_kept m_keptUndos m_isKept m_lanes m_sizes m_items m_moved) Cut.all 0 6 rfl rfl hl.1 (Nat.le_of_ble_eq_true rfl) rfl dX6_seize_3 (fun H locs hw => ?_)
  refine lv_if_ne (tgt := 11) hx hb dX6_seize_6 (by decide) (fun c3 => ?_) (fun c3 => ?_)
  · rw [if_neg c3] at h75
    refine lv_bipush (v := (-4)) hx hb dX6_seize_11 (by decide) ?_
    refine lv_istore_n (lv' := [(3, .int (-4)), (0, .ref m0), (1, .int i1), (2, .int i2)]) hx hb dX6_seize_13 rfl hl (by decide) rfl (fun ls hl => ?_)
    refine lv_iconst (v := 0) hx hb dX6_seize_14 (by decide) ?_
    refine lv_istore (lv' := [(4, .int 0), (3, .int (-4)), (0, .ref m0), (1, .int i1), (2, .int i2)]) hx hb dX6_seize_15 hl (by decide) rfl (fun ls hl => ?_)
    obtain ⟨o49, h76, h77⟩ := ob1 h75
    clear h75
    have kont46 : ∀ (H : Heap) (locs : List Loc) (ls : Array Slot), Wd d A s.heap (wM cy m0 m1 m2 m3 m4 m5 m6 m7 m8 m9 m10 m_now m_tape m_typed m_place m_isFault m_readWet m_readHarvest m_read m_undone m_undos m_bestGain m_aside m_kept m_keptUndos m_isKept m_lanes m_sizes m_items m_moved) H locs → lv_has ls 5 [(0, .ref m0), (1, .int i1), (2, .int i2), (3, .int o49)] → W p l e (rmo 4 93) s m args below meth c H locs 0 0 Q (F0 m 69 ls []) := by
      intro H locs ls hw hl
      clear h76
      refine lv_iload_n hx hb dX6_seize_69 rfl (lv_at hl 3 rfl) ?_
      refine lv_bipush (v := (-4)) hx hb dX6_seize_70 (by decide) ?_
      refine lv_icmp_ne (tgt := 78) hx hb dX6_seize_72 (by decide) (fun c69 => ?_) (fun c69 => ?_)
      · rw [if_neg c69] at h77
        refine lv_aload_n hx hb dX6_seize_78 rfl (lv_at hl 0 rfl) ?_
        obtain ⟨f70, x71, k72, h78⟩ := ob2 h77
        clear h77
        refine g_vv F (cX6_notes_ok l d cy m0 m1 m2 m3 m4 m5 m6 m7 m8 m9 m10 m_now m_tape m_typed m_place m_isFault m_readWet m_readHarvest m_read m_undone m_undos m_bestGain m_aside m_kept m_keptUndos m_isKept m_lanes m_sizes m_items m_moved f70 x71 k72) cal_X6_notes t_934 rfl ⟨by decide, by decide⟩ hw (w' := wM cy m0 m1 m2 m3 m4 m5 m6 m7 m8 m9 m10 m_now m_tape m_typed m_place m_isFault m_readWet m_readHarvest m_read f70 x71 m_bestGain m_aside m_kept m_keptUndos m_isKept m_lanes m_sizes m_items m_moved) Cut.all 0 6 rfl rfl hl.1 (Nat.le_of_ble_eq_true rfl) rfl dX6_seize_79 (fun H locs hw => ?_)
        refine lv_aload_n hx hb dX6_seize_82 rfl (lv_at hl 0 rfl) ?_
        refine lv_iload_n hx hb dX6_seize_83 rfl (lv_at hl 1 rfl) ?_
        refine lv_iload_n hx hb dX6_seize_84 rfl (lv_at hl 2 rfl) ?_
        refine lv_iload_n hx hb dX6_seize_85 rfl (lv_at hl 3 rfl) ?_
        obtain ⟨f73, k74, h79⟩ := ob1 h78
        clear h78
        refine g_vv F (cX6_goes_ok l d cy m0 m1 m2 m3 m4 m5 m6 m7 m8 m9 m10 m_now m_tape m_typed m_place m_isFault m_readWet m_readHarvest m_read f70 x71 m_bestGain m_aside m_kept m_keptUndos m_isKept m_lanes m_sizes m_items m_moved i1 i2 o49 f73 k74) cal_X6_goes t_938 rfl ⟨by decide, by decide⟩ hw (w' := wM cy m0 m1 m2 m3 m4 m5 m6 m7 m8 m9 m10 f73 m_tape m_typed m_place m_isFault m_readWet m_readHarvest m_read f70 x71 m_bestGain m_aside m_kept m_keptUndos m_isKept m_lanes m_sizes m_items m_moved) Cut.all 0 6 rfl rfl hl.1 (Nat.le_of_ble_eq_true rfl) rfl dX6_seize_86 (fun H locs hw => ?_)
        refine lv_iload_n hx hb dX6_seize_89 rfl (lv_at hl 3 rfl) ?_
        obtain ⟨rfl, rfl, rfl, rfl⟩ := inj4 h79
        exact hret _ _ _ _ hw dX6_seize_90
      · rw [if_pos c69] at h77
        refine lv_bipush (v := (-2)) hx hb dX6_seize_75 (by decide) ?_
        obtain ⟨rfl, rfl, rfl, rfl⟩ := inj4 h77
        exact hret _ _ _ _ hw dX6_seize_77
    clear h77
    have loop48 : ∀ (n : Nat) (v44 : Int32) (v45 : Int32) (H : Heap) (locs : List Loc) (ls : Array Slot), Wd d A s.heap (wM cy m0 m1 m2 m3 m4 m5 m6 m7 m8 m9 m10 m_now m_tape m_typed m_place m_isFault m_readWet m_readHarvest m_read m_undone m_undos m_bestGain m_aside m_kept m_keptUndos m_isKept m_lanes m_sizes m_items m_moved) H locs → lv_has ls 5 [(0, .ref m0), (1, .int i1), (2, .int i2), (3, .int v44), (4, .int v45)] → fX6_seize_L17 i1 m_now n v44 v45 = some (o49) → W p l e (rmo 4 93) s m args below meth c H locs 0 0 Q (F0 m 17 ls []) := by
      intro n
      induction n with
      | zero =>
        intro v44 v45 H locs ls hw hl h80
        rw [fX6_seize_L17] at h80
        cases h80
      | succ n ih47 =>
        intro v44 v45 H locs ls hw hl h81
        rw [fX6_seize_L17] at h81
        refine lv_iload hx hb dX6_seize_17 (lv_at hl 4 rfl) ?_
        refine lv_bipush (v := 12) hx hb dX6_seize_19 (by decide) ?_
        refine lv_icmp_ge (tgt := 69) hx hb dX6_seize_21 (by decide) (fun c50 => ?_) (fun c50 => ?_)
        · rw [if_pos c50] at h81
          obtain rfl := inj1 h81
          exact kont46 _ _ _ hw (lv_sub hl [0, 1, 2, 3] rfl)
        · rw [if_neg c50] at h81
          refine lv_aload_n hx hb dX6_seize_24 rfl (lv_at hl 0 rfl) ?_
          refine lv_iload_n hx hb dX6_seize_25 rfl (lv_at hl 1 rfl) ?_
          refine lv_iload hx hb dX6_seize_26 (lv_at hl 4 rfl) ?_
          obtain ⟨r51, k52, h82⟩ := ob1 h81
          clear h81
          refine g_vi F (cX6_hasOne_ok l d cy m0 m1 m2 m3 m4 m5 m6 m7 m8 m9 m10 m_now m_tape m_typed m_place m_isFault m_readWet m_readHarvest m_read m_undone m_undos m_bestGain m_aside m_kept m_keptUndos m_isKept m_lanes m_sizes m_items m_moved i1 v45 r51 k52) cal_X6_hasOne t_826 rfl ⟨by decide, by decide⟩ hw (w' := wM cy m0 m1 m2 m3 m4 m5 m6 m7 m8 m9 m10 m_now m_tape m_typed m_place m_isFault m_readWet m_readHarvest m_read m_undone m_undos m_bestGain m_aside m_kept m_keptUndos m_isKept m_lanes m_sizes m_items m_moved) Cut.all 0 6 rfl rfl hl.1 (Nat.le_of_ble_eq_true rfl) rfl dX6_seize_28 (fun H locs hw => ?_)
          obtain ⟨x60, h83, h84⟩ := ob1 h82
          clear h82
          have kont61 : ∀ (H : Heap) (locs : List Loc) (ls : Array Slot), Wd d A s.heap (wM cy m0 m1 m2 m3 m4 m5 m6 m7 m8 m9 m10 m_now m_tape m_typed m_place m_isFault m_readWet m_readHarvest m_read m_undone m_undos m_bestGain m_aside m_kept m_keptUndos m_isKept m_lanes m_sizes m_items m_moved) H locs → lv_has ls 5 [(0, .ref m0), (1, .int i1), (2, .int i2), (4, .int v45)] → W p l e (rmo 4 93) s m args below meth c H locs 0 0 Q (F0 m 62 ls [.int x60]) := by
            intro H locs ls hw hl
            clear h83
            refine lv_istore_n (lv' := [(3, .int x60), (0, .ref m0), (1, .int i1), (2, .int i2), (4, .int v45)]) hx hb dX6_seize_62 rfl hl (by decide) rfl (fun ls hl => ?_)
            refine lv_iinc (v := (v45 + 1)) (lv' := [(4, .int (v45 + 1)), (3, .int x60), (0, .ref m0), (1, .int i1), (2, .int i2)]) hx hb dX6_seize_63 hl (k := 4) rfl rfl (by decide) rfl (fun ls hl => ?_)
            refine lv_goto (tgt := 17) hx hb dX6_seize_66 (by decide) ?_
            exact ih47 x60 (v45 + 1) _ _ _ hw (lv_sub hl [2, 3, 4, 1, 0] rfl) h84
          clear h84
          refine lv_if_eq (tgt := 61) hx hb dX6_seize_31 (by decide) (fun c62 => ?_) (fun c62 => ?_)
          · rw [if_pos c62] at h83
            refine lv_iload_n hx hb dX6_seize_61 rfl (lv_at hl 3 rfl) ?_
            obtain rfl := inj1 h83
            exact kont61 _ _ _ hw (lv_sub hl [0, 1, 2, 4] rfl)
          · rw [if_neg c62] at h83
            refine lv_iload_n hx hb dX6_seize_34 rfl (lv_at hl 3 rfl) ?_
            refine lv_bipush (v := (-4)) hx hb dX6_seize_35 (by decide) ?_
            refine lv_icmp_eq (tgt := 56) hx hb dX6_seize_37 (by decide) (fun c63 => ?_) (fun c63 => ?_)
            · rw [if_pos c63] at h83
              refine lv_iload hx hb dX6_seize_56 (lv_at hl 4 rfl) ?_
              refine lv_goto (tgt := 62) hx hb dX6_seize_58 (by decide) ?_
              obtain rfl := inj1 h83
              exact kont61 _ _ _ hw (lv_sub hl [0, 1, 2, 4] rfl)
            · rw [if_neg c63] at h83
              refine lv_aload_n hx hb dX6_seize_40 rfl (lv_at hl 0 rfl) ?_
              refine lv_iload_n hx hb dX6_seize_41 rfl (lv_at hl 1 rfl) ?_
              refine lv_iload hx hb dX6_seize_42 (lv_at hl 4 rfl) ?_
              obtain ⟨r64, k65, h85⟩ := ob1 h83
              clear h83
              refine g_vi F (cX6_worthOf_ok l d cy m0 m1 m2 m3 m4 m5 m6 m7 m8 m9 m10 m_now m_tape m_typed m_place m_isFault m_readWet m_readHarvest m_read m_undone m_undos m_bestGain m_aside m_kept m_keptUndos m_isKept m_lanes m_sizes m_items m_moved i1 v45 r64 k65) cal_X6_worthOf t_842 rfl ⟨by decide, by decide⟩ hw (w' := wM cy m0 m1 m2 m3 m4 m5 m6 m7 m8 m9 m10 m_now m_tape m_typed m_place m_isFault m_readWet m_readHarvest m_read m_undone m_undos m_bestGain m_aside m_kept m_keptUndos m_isKept m_lanes m_sizes m_items m_moved) Cut.all 0 6 rfl rfl hl.1 (Nat.le_of_ble_eq_true rfl) rfl dX6_seize_44 (fun H locs hw => ?_)
              refine lv_aload_n hx hb dX6_seize_47 rfl (lv_at hl 0 rfl) ?_
              refine lv_iload_n hx hb dX6_seize_48 rfl (lv_at hl 1 rfl) ?_
              refine lv_iload_n hx hb dX6_seize_49 rfl (lv_at hl 3 rfl) ?_
              obtain ⟨r66, k67, h86⟩ := ob1 h85
              clear h85
              refine g_vi F (cX6_worthOf_ok l d cy m0 m1 m2 m3 m4 m5 m6 m7 m8 m9 m10 m_now m_tape m_typed m_place m_isFault m_readWet m_readHarvest m_read m_undone m_undos m_bestGain m_aside m_kept m_keptUndos m_isKept m_lanes m_sizes m_items m_moved i1 v44 r66 k67) cal_X6_worthOf t_842 rfl ⟨by decide, by decide⟩ hw (w' := wM cy m0 m1 m2 m3 m4 m5 m6 m7 m8 m9 m10 m_now m_tape m_typed m_place m_isFault m_readWet m_readHarvest m_read m_undone m_undos m_bestGain m_aside m_kept m_keptUndos m_isKept m_lanes m_sizes m_items m_moved) Cut.all 0 6 rfl rfl hl.1 (Nat.le_of_ble_eq_true rfl) rfl dX6_seize_50 (fun H locs hw => ?_)
              refine lv_icmp_le (tgt := 61) hx hb dX6_seize_53 (by decide) (fun c68 => ?_) (fun c68 => ?_)
              · rw [if_pos c68] at h86
                refine lv_iload_n hx hb dX6_seize_61 rfl (lv_at hl 3 rfl) ?_
                obtain rfl := inj1 h86
                exact kont61 _ _ _ hw (lv_sub hl [0, 1, 2, 4] rfl)
              · rw [if_neg c68] at h86
                refine lv_iload hx hb dX6_seize_56 (lv_at hl 4 rfl) ?_
                refine lv_goto (tgt := 62) hx hb dX6_seize_58 (by decide) ?_
                obtain rfl := inj1 h86
                exact kont61 _ _ _ hw (lv_sub hl [0, 1, 2, 4] rfl)
    exact loop48 fl (-4) 0 _ _ _ hw (lv_sub hl [2, 3, 4, 1, 0] rfl) h76
  · rw [if_pos c3] at h75
    refine lv_iconst (v := (-1)) hx hb dX6_seize_9 (by decide) ?_
    obtain ⟨rfl, rfl, rfl, rfl⟩ := inj4 h75
    exact hret _ _ _ _ hw dX6_seize_10
theorem cal_X6_give : CalV yX6_give cX6_give 4 (some .int) RX6 3 := ⟨t_953, t_951, t_952, t_43, by decide +kernel⟩
set_option maxHeartbeats 4000000 in
set_option maxRecDepth 100000 in
theorem cX6_give_ok (l : Launch) (d : va_G) (cy : Nat → ClassId) (m0 m1 m2 m3 m4 m5 m6 m7 m8 m9 m10 : Nat) (m_now : Nat → Int32) (m_tape : Nat → Int32) (m_typed : Int32) (m_place : Int32) (m_isFault : Int32) (m_readWet : Int32) (m_readHarvest : Int32) (m_read : Nat → Int32) (m_undone : Nat → Int32) (m_undos : Int32) (m_bestGain : Int32) (m_aside : Nat → Int32) (m_kept : Nat → Int32) (m_keptUndos : Int32) (m_isKept : Int32) (m_lanes : Nat → Int32) (m_sizes : Nat → Int32) (m_items : Nat → Int64) (m_moved : Nat → Int64) (i1 : Int32) (i2 : Int32) (i3 : Int32) (r : Int32) (m_now_r : Nat → Int32) (m_undone_r : Nat → Int32) (m_undos_r : Int32) (h0 : fX6_give m_now m_undone m_undos i1 i2 i3 = some (r, m_now_r, m_undone_r, m_undos_r)) : CI l yX6_give cX6_give 4 (some .int) 3 68 d cy [.ref m0, .int i1, .int i2, .int i3] (wM cy m0 m1 m2 m3 m4 m5 m6 m7 m8 m9 m10 m_now m_tape m_typed m_place m_isFault m_readWet m_readHarvest m_read m_undone m_undos m_bestGain m_aside m_kept m_keptUndos m_isKept m_lanes m_sizes m_items m_moved) (wM cy m0 m1 m2 m3 m4 m5 m6 m7 m8 m9 m10 m_now_r m_tape m_typed m_place m_isFault m_readWet m_readHarvest m_read m_undone_r m_undos_r m_bestGain m_aside m_kept m_keptUndos m_isKept m_lanes m_sizes m_items m_moved) r := by
  refine CI.of (by decide) (Nat.le_of_ble_eq_true rfl) ?_
  intro p e s m args below meth c A ls Q F hret hw hl
  have hx := F.1
  have hb := F.2.1
  have hl : lv_has ls 4 [(0, .ref m0), (1, .int i1), (2, .int i2), (3, .int i3)] := hl
  rw [fX6_give] at h0
  refine lv_aload_n hx hb dX6_give_0 rfl (lv_at hl 0 rfl) ?_
  refine lv_iload_n hx hb dX6_give_1 rfl (lv_at hl 1 rfl) ?_
  refine lv_iload_n hx hb dX6_give_2 rfl (lv_at hl 2 rfl) ?_
  obtain ⟨r1, k2, h19⟩ := ob1 h0
  clear h0
  refine g_vi F (cX6_areTwo_ok l d cy m0 m1 m2 m3 m4 m5 m6 m7 m8 m9 m10 m_now m_tape m_typed m_place m_isFault m_readWet m_readHarvest m_read m_undone m_undos m_bestGain m_aside m_kept m_keptUndos m_isKept m_lanes m_sizes m_items m_moved i1 i2 r1 k2) cal_X6_areTwo t_922 rfl ⟨by decide, by decide⟩ hw (w' := wM cy m0 m1 m2 m3 m4 m5 m6 m7 m8 m9 m10 m_now m_tape m_typed m_place m_isFault m_readWet m_readHarvest m_read m_undone m_undos m_bestGain m_aside m_kept m_keptUndos m_isKept m_lanes m_sizes m_items m_moved) Cut.all 0 6 rfl rfl hl.1 (Nat.le_of_ble_eq_true rfl) rfl dX6_give_3 (fun H locs hw => ?_)
  refine lv_if_eq (tgt := 21) hx hb dX6_give_6 (by decide) (fun c3 => ?_) (fun c3 => ?_)
  · rw [if_pos c3] at h19
    refine lv_iconst (v := (-1)) hx hb dX6_give_21 (by decide) ?_
    obtain ⟨rfl, rfl, rfl, rfl⟩ := inj4 h19
    exact hret _ _ _ _ hw dX6_give_22
  · rw [if_neg c3] at h19
    refine lv_iload_n hx hb dX6_give_9 rfl (lv_at hl 3 rfl) ?_
    refine lv_i2l hx hb dX6_give_10 rfl ?_
    refine lv_lconst (v := 1) hx hb dX6_give_11 (by decide) ?_
    refine lv_ldc2 (v := 99) hx hb F.2.2.2.2.2.1 (F.2.2.2.2.2.2.1 _ t_926) dX6_give_12 ?_
    obtain ⟨r4, k5, h20⟩ := ob1 h19
    clear h19
    refine g_si F (cX6_in_ok l d cy (Int32.toInt64 i3) 1 99 r4 k5) cal_X6_in t_793 rfl ⟨by decide, by decide⟩ hw (w' := wM cy m0 m1 m2 m3 m4 m5 m6 m7 m8 m9 m10 m_now m_tape m_typed m_place m_isFault m_readWet m_readHarvest m_read m_undone m_undos m_bestGain m_aside m_kept m_keptUndos m_isKept m_lanes m_sizes m_items m_moved) Cut.nil hl.1 (Nat.le_of_ble_eq_true rfl) rfl dX6_give_15 (fun H locs hw => ?_)
    refine lv_if_ne (tgt := 23) hx hb dX6_give_18 (by decide) (fun c6 => ?_) (fun c6 => ?_)
    · rw [if_neg c6] at h20
      refine lv_aload_n hx hb dX6_give_23 rfl (lv_at hl 0 rfl) ?_
      refine lv_iload_n hx hb dX6_give_24 rfl (lv_at hl 1 rfl) ?_
      refine lv_iconst (v := 2) hx hb dX6_give_25 (by decide) ?_
      obtain ⟨r7, k8, h21⟩ := ob1 h20
      clear h20
      refine g_vi F (cX6_ofPerson_ok l d cy m0 m1 m2 m3 m4 m5 m6 m7 m8 m9 m10 m_now m_tape m_typed m_place m_isFault m_readWet m_readHarvest m_read m_undone m_undos m_bestGain m_aside m_kept m_keptUndos m_isKept m_lanes m_sizes m_items m_moved i1 2 r7 k8) cal_X6_ofPerson t_808 rfl ⟨by decide, by decide⟩ hw (w' := wM cy m0 m1 m2 m3 m4 m5 m6 m7 m8 m9 m10 m_now m_tape m_typed m_place m_isFault m_readWet m_readHarvest m_read m_undone m_undos m_bestGain m_aside m_kept m_keptUndos m_isKept m_lanes m_sizes m_items m_moved) Cut.all 0 6 rfl rfl hl.1 (Nat.le_of_ble_eq_true rfl) rfl dX6_give_26 (fun H locs hw => ?_)
      refine lv_iload_n hx hb dX6_give_29 rfl (lv_at hl 3 rfl) ?_
      refine lv_icmp_ge (tgt := 36) hx hb dX6_give_30 (by decide) (fun c9 => ?_) (fun c9 => ?_)
      · rw [if_pos c9] at h21
        refine lv_aload_n hx hb dX6_give_36 rfl (lv_at hl 0 rfl) ?_
        obtain ⟨f10, x11, k12, h22⟩ := ob2 h21
        clear h21
        refine g_vv F (cX6_notes_ok l d cy m0 m1 m2 m3 m4 m5 m6 m7 m8 m9 m10 m_now m_tape m_typed m_place m_isFault m_readWet m_readHarvest m_read m_undone m_undos m_bestGain m_aside m_kept m_keptUndos m_isKept m_lanes m_sizes m_items m_moved f10 x11 k12) cal_X6_notes t_934 rfl ⟨by decide, by decide⟩ hw (w' := wM cy m0 m1 m2 m3 m4 m5 m6 m7 m8 m9 m10 m_now m_tape m_typed m_place m_isFault m_readWet m_readHarvest m_read f10 x11 m_bestGain m_aside m_kept m_keptUndos m_isKept m_lanes m_sizes m_items m_moved) Cut.all 0 6 rfl rfl hl.1 (Nat.le_of_ble_eq_true rfl) rfl dX6_give_37 (fun H locs hw => ?_)
        refine lv_aload_n hx hb dX6_give_40 rfl (lv_at hl 0 rfl) ?_
        refine lv_iload_n hx hb dX6_give_41 rfl (lv_at hl 1 rfl) ?_
        refine lv_iload_n hx hb dX6_give_42 rfl (lv_at hl 3 rfl) ?_
        obtain ⟨f13, k14, h23⟩ := ob1 h22
        clear h22
        refine g_vv F (cX6_pays_ok l d cy m0 m1 m2 m3 m4 m5 m6 m7 m8 m9 m10 m_now m_tape m_typed m_place m_isFault m_readWet m_readHarvest m_read f10 x11 m_bestGain m_aside m_kept m_keptUndos m_isKept m_lanes m_sizes m_items m_moved i1 i3 f13 k14) cal_X6_pays t_942 rfl ⟨by decide, by decide⟩ hw (w' := wM cy m0 m1 m2 m3 m4 m5 m6 m7 m8 m9 m10 f13 m_tape m_typed m_place m_isFault m_readWet m_readHarvest m_read f10 x11 m_bestGain m_aside m_kept m_keptUndos m_isKept m_lanes m_sizes m_items m_moved) Cut.all 0 6 rfl rfl hl.1 (Nat.le_of_ble_eq_true rfl) rfl dX6_give_43 (fun H locs hw => ?_)
        refine lv_aload_n hx hb dX6_give_46 rfl (lv_at hl 0 rfl) ?_
        refine lv_iload_n hx hb dX6_give_47 rfl (lv_at hl 2 rfl) ?_
        refine lv_iload_n hx hb dX6_give_48 rfl (lv_at hl 3 rfl) ?_
        refine lv_ineg hx hb dX6_give_49 ?_
        obtain ⟨f15, k16, h24⟩ := ob1 h23
        clear h23
        refine g_vv F (cX6_pays_ok l d cy m0 m1 m2 m3 m4 m5 m6 m7 m8 m9 m10 f13 m_tape m_typed m_place m_isFault m_readWet m_readHarvest m_read f10 x11 m_bestGain m_aside m_kept m_keptUndos m_isKept m_lanes m_sizes m_items m_moved i2 (-i3) f15 k16) cal_X6_pays t_942 rfl ⟨by decide, by decide⟩ hw (w' := wM cy m0 m1 m2 m3 m4 m5 m6 m7 m8 m9 m10 f15 m_tape m_typed m_place m_isFault m_readWet m_readHarvest m_read f10 x11 m_bestGain m_aside m_kept m_keptUndos m_isKept m_lanes m_sizes m_items m_moved) Cut.all 0 6 rfl rfl hl.1 (Nat.le_of_ble_eq_true rfl) rfl dX6_give_50 (fun H locs hw => ?_)
        refine lv_aload_n hx hb dX6_give_53 rfl (lv_at hl 0 rfl) ?_
        refine lv_iload_n hx hb dX6_give_54 rfl (lv_at hl 1 rfl) ?_
        refine lv_iconst (v := 2) hx hb dX6_give_55 (by decide) ?_
        obtain ⟨r17, k18, h25⟩ := ob1 h24
        clear h24
        refine g_vi F (cX6_ofPerson_ok l d cy m0 m1 m2 m3 m4 m5 m6 m7 m8 m9 m10 f15 m_tape m_typed m_place m_isFault m_readWet m_readHarvest m_read f10 x11 m_bestGain m_aside m_kept m_keptUndos m_isKept m_lanes m_sizes m_items m_moved i1 2 r17 k18) cal_X6_ofPerson t_808 rfl ⟨by decide, by decide⟩ hw (w' := wM cy m0 m1 m2 m3 m4 m5 m6 m7 m8 m9 m10 f15 m_tape m_typed m_place m_isFault m_readWet m_readHarvest m_read f10 x11 m_bestGain m_aside m_kept m_keptUndos m_isKept m_lanes m_sizes m_items m_moved) Cut.all 0 6 rfl rfl hl.1 (Nat.le_of_ble_eq_true rfl) rfl dX6_give_56 (fun H locs hw => ?_)
        obtain ⟨rfl, rfl, rfl, rfl⟩ := inj4 h25
        exact hret _ _ _ _ hw dX6_give_59
      · rw [if_neg c9] at h21
        refine lv_bipush (v := (-2)) hx hb dX6_give_33 (by decide) ?_
        obtain ⟨rfl, rfl, rfl, rfl⟩ := inj4 h21
        exact hret _ _ _ _ hw dX6_give_35
    · rw [if_pos c6] at h20
      refine lv_iconst (v := (-1)) hx hb dX6_give_21 (by decide) ?_
      obtain ⟨rfl, rfl, rfl, rfl⟩ := inj4 h20
      exact hret _ _ _ _ hw dX6_give_22
theorem cal_X6_make : CalV yX6_make cX6_make 4 (some .int) RX6 3 := ⟨t_957, t_955, t_956, t_43, by decide +kernel⟩
set_option maxHeartbeats 4000000 in
set_option maxRecDepth 100000 in
theorem cX6_make_ok (l : Launch) (d : va_G) (cy : Nat → ClassId) (m0 m1 m2 m3 m4 m5 m6 m7 m8 m9 m10 : Nat) (m_now : Nat → Int32) (m_tape : Nat → Int32) (m_typed : Int32) (m_place : Int32) (m_isFault : Int32) (m_readWet : Int32) (m_readHarvest : Int32) (m_read : Nat → Int32) (m_undone : Nat → Int32) (m_undos : Int32) (m_bestGain : Int32) (m_aside : Nat → Int32) (m_kept : Nat → Int32) (m_keptUndos : Int32) (m_isKept : Int32) (m_lanes : Nat → Int32) (m_sizes : Nat → Int32) (m_items : Nat → Int64) (m_moved : Nat → Int64) (i1 : Int32) (i2 : Int32) (i3 : Int32) (r : Int32) (m_now_r : Nat → Int32) (m_undone_r : Nat → Int32) (m_undos_r : Int32) (h0 : fX6_make m_now m_undone m_undos i1 i2 i3 = some (r, m_now_r, m_undone_r, m_undos_r)) : CI l yX6_make cX6_make 4 (some .int) 2 44 d cy [.ref m0, .int i1, .int i2, .int i3] (wM cy m0 m1 m2 m3 m4 m5 m6 m7 m8 m9 m10 m_now m_tape m_typed m_place m_isFault m_readWet m_readHarvest m_read m_undone m_undos m_bestGain m_aside m_kept m_keptUndos m_isKept m_lanes m_sizes m_items m_moved) (wM cy m0 m1 m2 m3 m4 m5 m6 m7 m8 m9 m10 m_now_r m_tape m_typed m_place m_isFault m_readWet m_readHarvest m_read m_undone_r m_undos_r m_bestGain m_aside m_kept m_keptUndos m_isKept m_lanes m_sizes m_items m_moved) r := by
  refine CI.of (by decide) (Nat.le_of_ble_eq_true rfl) ?_
  intro p e s m args below meth c A ls Q F hret hw hl
  have hx := F.1
  have hb := F.2.1
  have hl : lv_has ls 4 [(0, .ref m0), (1, .int i1), (2, .int i2), (3, .int i3)] := hl
  rw [fX6_make] at h0
  refine lv_iload_n hx hb dX6_make_0 rfl (lv_at hl 1 rfl) ?_
  refine lv_i2l hx hb dX6_make_1 rfl ?_
  refine lv_lconst (v := 0) hx hb dX6_make_2 (by decide) ?_
  refine lv_ldc2 (v := 5) hx hb F.2.2.2.2.2.1 (F.2.2.2.2.2.2.1 _ t_821) dX6_make_3 ?_
  obtain ⟨r1, k2, h16⟩ := ob1 h0
  clear h0
  refine g_si F (cX6_in_ok l d cy (Int32.toInt64 i1) 0 5 r1 k2) cal_X6_in t_793 rfl ⟨by decide, by decide⟩ hw (w' := wM cy m0 m1 m2 m3 m4 m5 m6 m7 m8 m9 m10 m_now m_tape m_typed m_place m_isFault m_readWet m_readHarvest m_read m_undone m_undos m_bestGain m_aside m_kept m_keptUndos m_isKept m_lanes m_sizes m_items m_moved) Cut.nil hl.1 (Nat.le_of_ble_eq_true rfl) rfl dX6_make_6 (fun H locs hw => ?_)
  refine lv_if_eq (tgt := 32) hx hb dX6_make_9 (by decide) (fun c3 => ?_) (fun c3 => ?_)
  · rw [if_pos c3] at h16
    refine lv_iconst (v := (-1)) hx hb dX6_make_32 (by decide) ?_
    obtain ⟨rfl, rfl, rfl, rfl⟩ := inj4 h16
    exact hret _ _ _ _ hw dX6_make_33
  · rw [if_neg c3] at h16
    refine lv_iload_n hx hb dX6_make_12 rfl (lv_at hl 2 rfl) ?_
    refine lv_i2l hx hb dX6_make_13 rfl ?_
    refine lv_lconst (v := 0) hx hb dX6_make_14 (by decide) ?_
    refine lv_lconst (v := 1) hx hb dX6_make_15 (by decide) ?_
    obtain ⟨r4, k5, h17⟩ := ob1 h16
    clear h16
    refine g_si F (cX6_in_ok l d cy (Int32.toInt64 i2) 0 1 r4 k5) cal_X6_in t_793 rfl ⟨by decide, by decide⟩ hw (w' := wM cy m0 m1 m2 m3 m4 m5 m6 m7 m8 m9 m10 m_now m_tape m_typed m_place m_isFault m_readWet m_readHarvest m_read m_undone m_undos m_bestGain m_aside m_kept m_keptUndos m_isKept m_lanes m_sizes m_items m_moved) Cut.nil hl.1 (Nat.le_of_ble_eq_true rfl) rfl dX6_make_16 (fun H locs hw => ?_)
    refine lv_if_eq (tgt := 32) hx hb dX6_make_19 (by decide) (fun c6 => ?_) (fun c6 => ?_)
    · rw [if_pos c6] at h17
      refine lv_iconst (v := (-1)) hx hb dX6_make_32 (by decide) ?_
      obtain ⟨rfl, rfl, rfl, rfl⟩ := inj4 h17
      exact hret _ _ _ _ hw dX6_make_33
    · rw [if_neg c6] at h17
      refine lv_iload_n hx hb dX6_make_22 rfl (lv_at hl 3 rfl) ?_
      refine lv_i2l hx hb dX6_make_23 rfl ?_
      refine lv_lconst (v := 0) hx hb dX6_make_24 (by decide) ?_
      refine lv_lconst (v := 1) hx hb dX6_make_25 (by decide) ?_
      obtain ⟨r7, k8, h18⟩ := ob1 h17
      clear h17
      refine g_si F (cX6_in_ok l d cy (Int32.toInt64 i3) 0 1 r7 k8) cal_X6_in t_793 rfl ⟨by decide, by decide⟩ hw (w' := wM cy m0 m1 m2 m3 m4 m5 m6 m7 m8 m9 m10 m_now m_tape m_typed m_place m_isFault m_readWet m_readHarvest m_read m_undone m_undos m_bestGain m_aside m_kept m_keptUndos m_isKept m_lanes m_sizes m_items m_moved) Cut.nil hl.1 (Nat.le_of_ble_eq_true rfl) rfl dX6_make_26 (fun H locs hw => ?_)
      refine lv_if_ne (tgt := 34) hx hb dX6_make_29 (by decide) (fun c9 => ?_) (fun c9 => ?_)
      · rw [if_neg c9] at h18
        refine lv_aload_n hx hb dX6_make_34 rfl (lv_at hl 0 rfl) ?_
        refine g_get F inG6 hw 0 rfl rfl 0 (by decide) t_730 (fun _ h9 => h9) rfl dX6_make_35 ?_
        refine lv_iconst (v := 2) hx hb dX6_make_38 (by decide) ?_
        refine lv_iload_n hx hb dX6_make_39 rfl (lv_at hl 2 rfl) ?_
        refine lv_iadd hx hb dX6_make_40 ?_
        obtain ⟨j10, k11, h19⟩ := ob1 h18
        clear h18
        refine g_iald F hw 1 rfl k11 dX6_make_41 ?_
        refine lv_iload_n hx hb dX6_make_42 rfl (lv_at hl 1 rfl) ?_
        refine lv_ishr hx hb dX6_make_43 ?_
        refine lv_iconst (v := 1) hx hb dX6_make_44 (by decide) ?_
        refine lv_iand hx hb dX6_make_45 ?_
        refine lv_iload_n hx hb dX6_make_46 rfl (lv_at hl 3 rfl) ?_
        refine lv_icmp_ne (tgt := 53) hx hb dX6_make_47 (by decide) (fun c12 => ?_) (fun c12 => ?_)
        · rw [if_neg c12] at h19
          refine lv_aload_n hx hb dX6_make_53 rfl (lv_at hl 0 rfl) ?_
          obtain ⟨f13, x14, k15, h20⟩ := ob2 h19
          clear h19
          refine g_vv F (cX6_notes_ok l d cy m0 m1 m2 m3 m4 m5 m6 m7 m8 m9 m10 m_now m_tape m_typed m_place m_isFault m_readWet m_readHarvest m_read m_undone m_undos m_bestGain m_aside m_kept m_keptUndos m_isKept m_lanes m_sizes m_items m_moved f13 x14 k15) cal_X6_notes t_934 rfl ⟨by decide, by decide⟩ hw (w' := wM cy m0 m1 m2 m3 m4 m5 m6 m7 m8 m9 m10 m_now m_tape m_typed m_place m_isFault m_readWet m_readHarvest m_read f13 x14 m_bestGain m_aside m_kept m_keptUndos m_isKept m_lanes m_sizes m_items m_moved) Cut.all 0 6 rfl rfl hl.1 (Nat.le_of_ble_eq_true rfl) rfl dX6_make_54 (fun H locs hw => ?_)
          refine lv_aload_n hx hb dX6_make_57 rfl (lv_at hl 0 rfl) ?_
          refine g_get F inG6 hw 0 rfl rfl 0 (by decide) t_730 (fun _ h9 => h9) rfl dX6_make_58 ?_
          refine lv_iconst (v := 2) hx hb dX6_make_61 (by decide) ?_
          refine lv_iload_n hx hb dX6_make_62 rfl (lv_at hl 2 rfl) ?_
          refine lv_iadd hx hb dX6_make_63 ?_
          refine lv_dup2_11 hx hb dX6_make_64 rfl rfl ?_
          refine g_iald F hw 1 rfl k11 dX6_make_65 ?_
          refine lv_iconst (v := 1) hx hb dX6_make_66 (by decide) ?_
          refine lv_iload_n hx hb dX6_make_67 rfl (lv_at hl 1 rfl) ?_
          refine lv_ishl hx hb dX6_make_68 ?_
          refine lv_ixor hx hb dX6_make_69 ?_
          refine g_iast F hw 1 rfl k11 dX6_make_70 (w' := wM cy m0 m1 m2 m3 m4 m5 m6 m7 m8 m9 m10 (upd m_now j10 ((m_now j10) ^^^ ((1 : Int32) <<< (i1 &&& 31)))) m_tape m_typed m_place m_isFault m_readWet m_readHarvest m_read f13 x14 m_bestGain m_aside m_kept m_keptUndos m_isKept m_lanes m_sizes m_items m_moved) rfl (fun H locs hw => ?_)
          refine lv_aload_n hx hb dX6_make_71 rfl (lv_at hl 0 rfl) ?_
          refine g_get F inG6 hw 0 rfl rfl 0 (by decide) t_730 (fun _ h9 => h9) rfl dX6_make_72 ?_
          refine lv_iconst (v := 2) hx hb dX6_make_75 (by decide) ?_
          refine lv_iload_n hx hb dX6_make_76 rfl (lv_at hl 2 rfl) ?_
          refine lv_iadd hx hb dX6_make_77 ?_
          refine g_iald F hw 1 rfl k11 dX6_make_78 ?_
          obtain ⟨rfl, rfl, rfl, rfl⟩ := inj4 h20
          exact hret _ _ _ _ hw dX6_make_79
        · rw [if_pos c12] at h19
          refine lv_bipush (v := (-2)) hx hb dX6_make_50 (by decide) ?_
          obtain ⟨rfl, rfl, rfl, rfl⟩ := inj4 h19
          exact hret _ _ _ _ hw dX6_make_52
      · rw [if_pos c9] at h18
        refine lv_iconst (v := (-1)) hx hb dX6_make_32 (by decide) ?_
        obtain ⟨rfl, rfl, rfl, rfl⟩ := inj4 h18
        exact hret _ _ _ _ hw dX6_make_33
theorem cal_X6_middleOf : CalV yX6_middleOf cX6_middleOf 7 (some .int) RX6 3 := ⟨t_974, t_973, t_29, t_43, by decide +kernel⟩
set_option maxHeartbeats 4000000 in
set_option maxRecDepth 100000 in
theorem cX6_middleOf_ok (l : Launch) (d : va_G) (cy : Nat → ClassId) (m0 m1 m2 m3 m4 m5 m6 m7 m8 m9 m10 : Nat) (m_now : Nat → Int32) (m_tape : Nat → Int32) (m_typed : Int32) (m_place : Int32) (m_isFault : Int32) (m_readWet : Int32) (m_readHarvest : Int32) (m_read : Nat → Int32) (m_undone : Nat → Int32) (m_undos : Int32) (m_bestGain : Int32) (m_aside : Nat → Int32) (m_kept : Nat → Int32) (m_keptUndos : Int32) (m_isKept : Int32) (m_lanes : Nat → Int32) (m_sizes : Nat → Int32) (m_items : Nat → Int64) (m_moved : Nat → Int64) (i1 : Int32) (i2 : Int32) (i3 : Int32) (r : Int32) (m_now_r : Nat → Int32) (h0 : fX6_middleOf m_now i1 i2 i3 = some (r, m_now_r)) : CI l yX6_middleOf cX6_middleOf 7 (some .int) 5 116 d cy [.ref m0, .int i1, .int i2, .int i3] (wM cy m0 m1 m2 m3 m4 m5 m6 m7 m8 m9 m10 m_now m_tape m_typed m_place m_isFault m_readWet m_readHarvest m_read m_undone m_undos m_bestGain m_aside m_kept m_keptUndos m_isKept m_lanes m_sizes m_items m_moved) (wM cy m0 m1 m2 m3 m4 m5 m6 m7 m8 m9 m10 m_now_r m_tape m_typed m_place m_isFault m_readWet m_readHarvest m_read m_undone m_undos m_bestGain m_aside m_kept m_keptUndos m_isKept m_lanes m_sizes m_items m_moved) r := by
  refine CI.of (by decide) (Nat.le_of_ble_eq_true rfl) ?_
  intro p e s m args below meth c A ls Q F hret hw hl
  have hx := F.1
  have hb := F.2.1
  have hl : lv_has ls 7 [(0, .ref m0), (1, .int i1), (2, .int i2), (3, .int i3)] := hl
  rw [fX6_middleOf] at h0
  refine lv_aload_n hx hb dX6_middleOf_0 rfl (lv_at hl 0 rfl) ?_
  refine lv_iload_n hx hb dX6_middleOf_1 rfl (lv_at hl 1 rfl) ?_
  obtain ⟨r1, k2, h14⟩ := ob1 h0
  clear h0
  refine g_vi F (cX6_worth_ok l d cy m0 m1 m2 m3 m4 m5 m6 m7 m8 m9 m10 m_now m_tape m_typed m_place m_isFault m_readWet m_readHarvest m_read m_undone m_undos m_bestGain m_aside m_kept m_keptUndos m_isKept m_lanes m_sizes m_items m_moved i1 r1 k2) cal_X6_worth t_838 rfl ⟨by decide, by decide⟩ hw (w' := wM cy m0 m1 m2 m3 m4 m5 m6 m7 m8 m9 m10 m_now m_tape m_typed m_place m_isFault m_readWet m_readHarvest m_read m_undone m_undos m_bestGain m_aside m_kept m_keptUndos m_isKept m_lanes m_sizes m_items m_moved) Cut.all 0 6 rfl rfl hl.1 (Nat.le_of_ble_eq_true rfl) rfl dX6_middleOf_2 (fun H locs hw => ?_)
  refine lv_istore (lv' := [(4, .int r1), (0, .ref m0), (1, .int i1), (2, .int i2), (3, .int i3)]) hx hb dX6_middleOf_5 hl (by decide) rfl (fun ls hl => ?_)
  refine lv_aload_n hx hb dX6_middleOf_7 rfl (lv_at hl 1 rfl) ?_
  refine lv_iload_n hx hb dX6_middleOf_8 rfl (lv_at hl 3 rfl) ?_
  obtain ⟨r3, k4, h15⟩ := ob1 h14
  clear h14
  refine g_vi F (cX6_worth_ok l d cy m0 m1 m2 m3 m4 m5 m6 m7 m8 m9 m10 m_now m_tape m_typed m_place m_isFault m_readWet m_readHarvest m_read m_undone m_undos m_bestGain m_aside m_kept m_keptUndos m_isKept m_lanes m_sizes m_items m_moved i2 r3 k4) cal_X6_worth t_838 rfl ⟨by decide, by decide⟩ hw (w' := wM cy m0 m1 m2 m3 m4 m5 m6 m7 m8 m9 m10 m_now m_tape m_typed m_place m_isFault m_readWet m_readHarvest m_read m_undone m_undos m_bestGain m_aside m_kept m_keptUndos m_isKept m_lanes m_sizes m_items m_moved) Cut.all 0 6 rfl rfl hl.1 (Nat.le_of_ble_eq_true rfl) rfl dX6_middleOf_9 (fun H locs hw => ?_)
  refine lv_istore (lv' := [(5, .int r3), (4, .int r1), (0, .ref m0), (1, .int i1), (2, .int i2), (3, .int i3)]) hx hb dX6_middleOf_12 hl (by decide) rfl (fun ls hl => ?_)
  refine lv_aload_n hx hb dX6_middleOf_14 rfl (lv_at hl 2 rfl) ?_
  refine lv_iload_n hx hb dX6_middleOf_15 rfl (lv_at hl 3 rfl) ?_
  refine lv_iload_n hx hb dX6_middleOf_16 rfl (lv_at hl 4 rfl) ?_
  refine lv_iload_n hx hb dX6_middleOf_17 rfl (lv_at hl 5 rfl) ?_
  obtain ⟨f5, k6, h16⟩ := ob1 h15
  clear h15
  refine g_vv F (cX6_goes_ok l d cy m0 m1 m2 m3 m4 m5 m6 m7 m8 m9 m10 m_now m_tape m_typed m_place m_isFault m_readWet m_readHarvest m_read m_undone m_undos m_bestGain m_aside m_kept m_keptUndos m_isKept m_lanes m_sizes m_items m_moved i1 i2 i3 f5 k6) cal_X6_goes t_938 rfl ⟨by decide, by decide⟩ hw (w' := wM cy m0 m1 m2 m3 m4 m5 m6 m7 m8 m9 m10 f5 m_tape m_typed m_place m_isFault m_readWet m_readHarvest m_read m_undone m_undos m_bestGain m_aside m_kept m_keptUndos m_isKept m_lanes m_sizes m_items m_moved) Cut.all 0 6 rfl rfl hl.1 (Nat.le_of_ble_eq_true rfl) rfl dX6_middleOf_18 (fun H locs hw => ?_)
  refine lv_iload hx hb dX6_middleOf_21 (lv_at hl 1 rfl) ?_
  refine lv_aload_n hx hb dX6_middleOf_23 rfl (lv_at hl 2 rfl) ?_
  refine lv_iload_n hx hb dX6_middleOf_24 rfl (lv_at hl 3 rfl) ?_
  obtain ⟨r7, k8, h17⟩ := ob1 h16
  clear h16
  refine g_vi F (cX6_worth_ok l d cy m0 m1 m2 m3 m4 m5 m6 m7 m8 m9 m10 f5 m_tape m_typed m_place m_isFault m_readWet m_readHarvest m_read m_undone m_undos m_bestGain m_aside m_kept m_keptUndos m_isKept m_lanes m_sizes m_items m_moved i1 r7 k8) cal_X6_worth t_838 rfl ⟨by decide, by decide⟩ hw (w' := wM cy m0 m1 m2 m3 m4 m5 m6 m7 m8 m9 m10 f5 m_tape m_typed m_place m_isFault m_readWet m_readHarvest m_read m_undone m_undos m_bestGain m_aside m_kept m_keptUndos m_isKept m_lanes m_sizes m_items m_moved) Cut.all 0 6 rfl rfl hl.1 (Nat.le_of_ble_eq_true rfl) rfl dX6_middleOf_25 (fun H locs hw => ?_)
  refine lv_isub hx hb dX6_middleOf_28 ?_
  refine lv_aload_n hx hb dX6_middleOf_29 rfl (lv_at hl 2 rfl) ?_
  refine lv_iload_n hx hb dX6_middleOf_30 rfl (lv_at hl 4 rfl) ?_
  obtain ⟨r9, k10, h18⟩ := ob1 h17
  clear h17
  refine g_vi F (cX6_worth_ok l d cy m0 m1 m2 m3 m4 m5 m6 m7 m8 m9 m10 f5 m_tape m_typed m_place m_isFault m_readWet m_readHarvest m_read m_undone m_undos m_bestGain m_aside m_kept m_keptUndos m_isKept m_lanes m_sizes m_items m_moved i2 r9 k10) cal_X6_worth t_838 rfl ⟨by decide, by decide⟩ hw (w' := wM cy m0 m1 m2 m3 m4 m5 m6 m7 m8 m9 m10 f5 m_tape m_typed m_place m_isFault m_readWet m_readHarvest m_read m_undone m_undos m_bestGain m_aside m_kept m_keptUndos m_isKept m_lanes m_sizes m_items m_moved) Cut.all 0 6 rfl rfl hl.1 (Nat.le_of_ble_eq_true rfl) rfl dX6_middleOf_31 (fun H locs hw => ?_)
  refine lv_iadd hx hb dX6_middleOf_34 ?_
  refine lv_iload hx hb dX6_middleOf_35 (lv_at hl 0 rfl) ?_
  refine lv_isub hx hb dX6_middleOf_37 ?_
  refine lv_iconst (v := 2) hx hb dX6_middleOf_38 (by decide) ?_
  refine lv_idiv hx hb dX6_middleOf_39 (by decide) ?_
  refine lv_istore (lv' := [(6, .int ((((r1 - r7) + r9) - r3) / 2)), (5, .int r3), (4, .int r1), (0, .ref m0), (1, .int i1), (2, .int i2), (3, .int i3)]) hx hb dX6_middleOf_40 hl (by decide) rfl (fun ls hl => ?_)
  refine lv_aload_n hx hb dX6_middleOf_42 rfl (lv_at hl 3 rfl) ?_
  refine lv_iload_n hx hb dX6_middleOf_43 rfl (lv_at hl 5 rfl) ?_
  refine lv_iload_n hx hb dX6_middleOf_44 rfl (lv_at hl 4 rfl) ?_
  refine lv_iload_n hx hb dX6_middleOf_45 rfl (lv_at hl 6 rfl) ?_
  obtain ⟨f11, k12, h19⟩ := ob1 h18
  clear h18
  refine g_vv F (cX6_goes_ok l d cy m0 m1 m2 m3 m4 m5 m6 m7 m8 m9 m10 f5 m_tape m_typed m_place m_isFault m_readWet m_readHarvest m_read m_undone m_undos m_bestGain m_aside m_kept m_keptUndos m_isKept m_lanes m_sizes m_items m_moved i2 i1 i3 f11 k12) cal_X6_goes t_938 rfl ⟨by decide, by decide⟩ hw (w' := wM cy m0 m1 m2 m3 m4 m5 m6 m7 m8 m9 m10 f11 m_tape m_typed m_place m_isFault m_readWet m_readHarvest m_read m_undone m_undos m_bestGain m_aside m_kept m_keptUndos m_isKept m_lanes m_sizes m_items m_moved) Cut.all 0 6 rfl rfl hl.1 (Nat.le_of_ble_eq_true rfl) rfl dX6_middleOf_46 (fun H locs hw => ?_)
  refine lv_iload hx hb dX6_middleOf_49 (lv_at hl 0 rfl) ?_
  refine lv_if_ge (tgt := 58) hx hb dX6_middleOf_51 (by decide) (fun c13 => ?_) (fun c13 => ?_)
  · rw [if_pos c13] at h19
    refine lv_iload hx hb dX6_middleOf_58 (lv_at hl 0 rfl) ?_
    obtain ⟨rfl, rfl⟩ := inj2 h19
    exact hret _ _ _ _ hw dX6_middleOf_60
  · rw [if_neg c13] at h19
    refine lv_iconst (v := 0) hx hb dX6_middleOf_54 (by decide) ?_
    refine lv_goto (tgt := 60) hx hb dX6_middleOf_55 (by decide) ?_
    obtain ⟨rfl, rfl⟩ := inj2 h19
    exact hret _ _ _ _ hw dX6_middleOf_60
theorem cal_X6_trades : CalV yX6_trades cX6_trades 5 none RX6 3 := ⟨t_970, t_969, t_28, t_43, by decide +kernel⟩
set_option maxHeartbeats 4000000 in
set_option maxRecDepth 100000 in
theorem cX6_trades_ok (l : Launch) (d : va_G) (cy : Nat → ClassId) (m0 m1 m2 m3 m4 m5 m6 m7 m8 m9 m10 : Nat) (m_now : Nat → Int32) (m_tape : Nat → Int32) (m_typed : Int32) (m_place : Int32) (m_isFault : Int32) (m_readWet : Int32) (m_readHarvest : Int32) (m_read : Nat → Int32) (m_undone : Nat → Int32) (m_undos : Int32) (m_bestGain : Int32) (m_aside : Nat → Int32) (m_kept : Nat → Int32) (m_keptUndos : Int32) (m_isKept : Int32) (m_lanes : Nat → Int32) (m_sizes : Nat → Int32) (m_items : Nat → Int64) (m_moved : Nat → Int64) (i1 : Int32) (i2 : Int32) (i3 : Int32) (m_now_r : Nat → Int32) (h0 : fX6_trades m_now i1 i2 i3 = some (m_now_r)) : CV l yX6_trades cX6_trades 5 none 6 142 d cy [.ref m0, .int i1, .int i2, .int i3] (wM cy m0 m1 m2 m3 m4 m5 m6 m7 m8 m9 m10 m_now m_tape m_typed m_place m_isFault m_readWet m_readHarvest m_read m_undone m_undos m_bestGain m_aside m_kept m_keptUndos m_isKept m_lanes m_sizes m_items m_moved) (wM cy m0 m1 m2 m3 m4 m5 m6 m7 m8 m9 m10 m_now_r m_tape m_typed m_place m_isFault m_readWet m_readHarvest m_read m_undone m_undos m_bestGain m_aside m_kept m_keptUndos m_isKept m_lanes m_sizes m_items m_moved) := by
  refine CV.of (by decide) (Nat.le_of_ble_eq_true rfl) ?_
  intro p e s m args below meth c A ls Q F hret hw hl
  have hx := F.1
  have hb := F.2.1
  have hl : lv_has ls 5 [(0, .ref m0), (1, .int i1), (2, .int i2), (3, .int i3)] := hl
  rw [fX6_trades] at h0
  refine lv_iload_n hx hb dX6_trades_0 rfl (lv_at hl 1 rfl) ?_
  refine lv_iload_n hx hb dX6_trades_1 rfl (lv_at hl 2 rfl) ?_
  refine lv_icmp_eq (tgt := 14) hx hb dX6_trades_2 (by decide) (fun c1 => ?_) (fun c1 => ?_)
  · rw [if_pos c1] at h0
    obtain rfl := inj1 h0
    exact hret _ _ _ _ hw dX6_trades_14
  · rw [if_neg c1] at h0
    refine lv_aload_n hx hb dX6_trades_5 rfl (lv_at hl 0 rfl) ?_
    refine lv_iload_n hx hb dX6_trades_6 rfl (lv_at hl 1 rfl) ?_
    refine lv_iload_n hx hb dX6_trades_7 rfl (lv_at hl 3 rfl) ?_
    obtain ⟨r2, k3, h17⟩ := ob1 h0
    clear h0
    refine g_vi F (cX6_maySell_ok l d cy m0 m1 m2 m3 m4 m5 m6 m7 m8 m9 m10 m_now m_tape m_typed m_place m_isFault m_readWet m_readHarvest m_read m_undone m_undos m_bestGain m_aside m_kept m_keptUndos m_isKept m_lanes m_sizes m_items m_moved i1 i3 r2 k3) cal_X6_maySell t_927 rfl ⟨by decide, by decide⟩ hw (w' := wM cy m0 m1 m2 m3 m4 m5 m6 m7 m8 m9 m10 m_now m_tape m_typed m_place m_isFault m_readWet m_readHarvest m_read m_undone m_undos m_bestGain m_aside m_kept m_keptUndos m_isKept m_lanes m_sizes m_items m_moved) Cut.all 0 6 rfl rfl hl.1 (Nat.le_of_ble_eq_true rfl) rfl dX6_trades_8 (fun H locs hw => ?_)
    refine lv_if_ne (tgt := 15) hx hb dX6_trades_11 (by decide) (fun c4 => ?_) (fun c4 => ?_)
    · rw [if_neg c4] at h17
      refine lv_aload_n hx hb dX6_trades_15 rfl (lv_at hl 0 rfl) ?_
      refine lv_iload_n hx hb dX6_trades_16 rfl (lv_at hl 1 rfl) ?_
      refine lv_iload_n hx hb dX6_trades_17 rfl (lv_at hl 2 rfl) ?_
      refine lv_iload_n hx hb dX6_trades_18 rfl (lv_at hl 3 rfl) ?_
      obtain ⟨r5, f6, k7, h18⟩ := ob2 h17
      clear h17
      refine g_vi F (cX6_middleOf_ok l d cy m0 m1 m2 m3 m4 m5 m6 m7 m8 m9 m10 m_now m_tape m_typed m_place m_isFault m_readWet m_readHarvest m_read m_undone m_undos m_bestGain m_aside m_kept m_keptUndos m_isKept m_lanes m_sizes m_items m_moved i1 i2 i3 r5 f6 k7) cal_X6_middleOf t_971 rfl ⟨by decide, by decide⟩ hw (w' := wM cy m0 m1 m2 m3 m4 m5 m6 m7 m8 m9 m10 f6 m_tape m_typed m_place m_isFault m_readWet m_readHarvest m_read m_undone m_undos m_bestGain m_aside m_kept m_keptUndos m_isKept m_lanes m_sizes m_items m_moved) Cut.all 0 6 rfl rfl hl.1 (Nat.le_of_ble_eq_true rfl) rfl dX6_trades_19 (fun H locs hw => ?_)
      refine lv_istore (lv' := [(4, .int r5), (0, .ref m0), (1, .int i1), (2, .int i2), (3, .int i3)]) hx hb dX6_trades_22 hl (by decide) rfl (fun ls hl => ?_)
      refine lv_aload_n hx hb dX6_trades_24 rfl (lv_at hl 1 rfl) ?_
      refine lv_iload_n hx hb dX6_trades_25 rfl (lv_at hl 3 rfl) ?_
      refine lv_iconst (v := 2) hx hb dX6_trades_26 (by decide) ?_
      obtain ⟨r8, k9, h19⟩ := ob1 h18
      clear h18
      refine g_vi F (cX6_ofPerson_ok l d cy m0 m1 m2 m3 m4 m5 m6 m7 m8 m9 m10 f6 m_tape m_typed m_place m_isFault m_readWet m_readHarvest m_read m_undone m_undos m_bestGain m_aside m_kept m_keptUndos m_isKept m_lanes m_sizes m_items m_moved i2 2 r8 k9) cal_X6_ofPerson t_808 rfl ⟨by decide, by decide⟩ hw (w' := wM cy m0 m1 m2 m3 m4 m5 m6 m7 m8 m9 m10 f6 m_tape m_typed m_place m_isFault m_readWet m_readHarvest m_read m_undone m_undos m_bestGain m_aside m_kept m_keptUndos m_isKept m_lanes m_sizes m_items m_moved) Cut.all 0 6 rfl rfl hl.1 (Nat.le_of_ble_eq_true rfl) rfl dX6_trades_27 (fun H locs hw => ?_)
      refine lv_iload hx hb dX6_trades_30 (lv_at hl 0 rfl) ?_
      refine lv_icmp_lt (tgt := 57) hx hb dX6_trades_32 (by decide) (fun c10 => ?_) (fun c10 => ?_)
      · rw [if_pos c10] at h19
        obtain rfl := inj1 h19
        exact hret _ _ _ _ hw dX6_trades_57
      · rw [if_neg c10] at h19
        refine lv_aload_n hx hb dX6_trades_35 rfl (lv_at hl 1 rfl) ?_
        refine lv_iload_n hx hb dX6_trades_36 rfl (lv_at hl 2 rfl) ?_
        refine lv_iload_n hx hb dX6_trades_37 rfl (lv_at hl 3 rfl) ?_
        refine lv_iload_n hx hb dX6_trades_38 rfl (lv_at hl 4 rfl) ?_
        obtain ⟨f11, k12, h20⟩ := ob1 h19
        clear h19
        refine g_vv F (cX6_goes_ok l d cy m0 m1 m2 m3 m4 m5 m6 m7 m8 m9 m10 f6 m_tape m_typed m_place m_isFault m_readWet m_readHarvest m_read m_undone m_undos m_bestGain m_aside m_kept m_keptUndos m_isKept m_lanes m_sizes m_items m_moved i1 i2 i3 f11 k12) cal_X6_goes t_938 rfl ⟨by decide, by decide⟩ hw (w' := wM cy m0 m1 m2 m3 m4 m5 m6 m7 m8 m9 m10 f11 m_tape m_typed m_place m_isFault m_readWet m_readHarvest m_read m_undone m_undos m_bestGain m_aside m_kept m_keptUndos m_isKept m_lanes m_sizes m_items m_moved) Cut.all 0 6 rfl rfl hl.1 (Nat.le_of_ble_eq_true rfl) rfl dX6_trades_39 (fun H locs hw => ?_)
        refine lv_aload_n hx hb dX6_trades_42 rfl (lv_at hl 1 rfl) ?_
        refine lv_iload_n hx hb dX6_trades_43 rfl (lv_at hl 3 rfl) ?_
        refine lv_iload hx hb dX6_trades_44 (lv_at hl 0 rfl) ?_
        obtain ⟨f13, k14, h21⟩ := ob1 h20
        clear h20
        refine g_vv F (cX6_pays_ok l d cy m0 m1 m2 m3 m4 m5 m6 m7 m8 m9 m10 f11 m_tape m_typed m_place m_isFault m_readWet m_readHarvest m_read m_undone m_undos m_bestGain m_aside m_kept m_keptUndos m_isKept m_lanes m_sizes m_items m_moved i2 r5 f13 k14) cal_X6_pays t_942 rfl ⟨by decide, by decide⟩ hw (w' := wM cy m0 m1 m2 m3 m4 m5 m6 m7 m8 m9 m10 f13 m_tape m_typed m_place m_isFault m_readWet m_readHarvest m_read m_undone m_undos m_bestGain m_aside m_kept m_keptUndos m_isKept m_lanes m_sizes m_items m_moved) Cut.all 0 6 rfl rfl hl.1 (Nat.le_of_ble_eq_true rfl) rfl dX6_trades_46 (fun H locs hw => ?_)
        refine lv_aload_n hx hb dX6_trades_49 rfl (lv_at hl 1 rfl) ?_
        refine lv_iload_n hx hb dX6_trades_50 rfl (lv_at hl 2 rfl) ?_
        refine lv_iload hx hb dX6_trades_51 (lv_at hl 0 rfl) ?_
        refine lv_ineg hx hb dX6_trades_53 ?_
        obtain ⟨f15, k16, h22⟩ := ob1 h21
        clear h21
        refine g_vv F (cX6_pays_ok l d cy m0 m1 m2 m3 m4 m5 m6 m7 m8 m9 m10 f13 m_tape m_typed m_place m_isFault m_readWet m_readHarvest m_read m_undone m_undos m_bestGain m_aside m_kept m_keptUndos m_isKept m_lanes m_sizes m_items m_moved i1 (-r5) f15 k16) cal_X6_pays t_942 rfl ⟨by decide, by decide⟩ hw (w' := wM cy m0 m1 m2 m3 m4 m5 m6 m7 m8 m9 m10 f15 m_tape m_typed m_place m_isFault m_readWet m_readHarvest m_read m_undone m_undos m_bestGain m_aside m_kept m_keptUndos m_isKept m_lanes m_sizes m_items m_moved) Cut.all 0 6 rfl rfl hl.1 (Nat.le_of_ble_eq_true rfl) rfl dX6_trades_54 (fun H locs hw => ?_)
        obtain rfl := inj1 h22
        exact hret _ _ _ _ hw dX6_trades_57
    · rw [if_pos c4] at h17
      obtain rfl := inj1 h17
      exact hret _ _ _ _ hw dX6_trades_14
theorem cal_X6_drift : CalV yX6_drift cX6_drift 3 (some .int) RX6 1 := ⟨t_961, t_959, t_960, t_43, by decide +kernel⟩
set_option maxHeartbeats 4000000 in
set_option maxRecDepth 100000 in
theorem cX6_drift_ok (l : Launch) (d : va_G) (cy : Nat → ClassId) (m0 m1 m2 m3 m4 m5 m6 m7 m8 m9 m10 : Nat) (m_now : Nat → Int32) (m_tape : Nat → Int32) (m_typed : Int32) (m_place : Int32) (m_isFault : Int32) (m_readWet : Int32) (m_readHarvest : Int32) (m_read : Nat → Int32) (m_undone : Nat → Int32) (m_undos : Int32) (m_bestGain : Int32) (m_aside : Nat → Int32) (m_kept : Nat → Int32) (m_keptUndos : Int32) (m_isKept : Int32) (m_lanes : Nat → Int32) (m_sizes : Nat → Int32) (m_items : Nat → Int64) (m_moved : Nat → Int64) (i1 : Int32) (r : Int32) (m_now_r : Nat → Int32) (m_undone_r : Nat → Int32) (m_undos_r : Int32) (h0 : fX6_drift m_now m_undone m_undos i1 = some (r, m_now_r, m_undone_r, m_undos_r)) : CI l yX6_drift cX6_drift 3 (some .int) 7 166 d cy [.ref m0, .int i1] (wM cy m0 m1 m2 m3 m4 m5 m6 m7 m8 m9 m10 m_now m_tape m_typed m_place m_isFault m_readWet m_readHarvest m_read m_undone m_undos m_bestGain m_aside m_kept m_keptUndos m_isKept m_lanes m_sizes m_items m_moved) (wM cy m0 m1 m2 m3 m4 m5 m6 m7 m8 m9 m10 m_now_r m_tape m_typed m_place m_isFault m_readWet m_readHarvest m_read m_undone_r m_undos_r m_bestGain m_aside m_kept m_keptUndos m_isKept m_lanes m_sizes m_items m_moved) r := by
  refine CI.of (by decide) (Nat.le_of_ble_eq_true rfl) ?_
  intro p e s m args below meth c A ls Q F hret hw hl
  have hx := F.1
  have hb := F.2.1
  have hl : lv_has ls 3 [(0, .ref m0), (1, .int i1)] := hl
  rw [fX6_drift] at h0
  refine lv_iload_n hx hb dX6_drift_0 rfl (lv_at hl 1 rfl) ?_
  refine lv_i2l hx hb dX6_drift_1 rfl ?_
  refine lv_lconst (v := 1) hx hb dX6_drift_2 (by decide) ?_
  refine lv_ldc2 (v := 40) hx hb F.2.2.2.2.2.1 (F.2.2.2.2.2.2.1 _ t_962) dX6_drift_3 ?_
  obtain ⟨r1, k2, h80⟩ := ob1 h0
  clear h0
  refine g_si F (cX6_in_ok l d cy (Int32.toInt64 i1) 1 40 r1 k2) cal_X6_in t_793 rfl ⟨by decide, by decide⟩ hw (w' := wM cy m0 m1 m2 m3 m4 m5 m6 m7 m8 m9 m10 m_now m_tape m_typed m_place m_isFault m_readWet m_readHarvest m_read m_undone m_undos m_bestGain m_aside m_kept m_keptUndos m_isKept m_lanes m_sizes m_items m_moved) Cut.nil hl.1 (Nat.le_of_ble_eq_true rfl) rfl dX6_drift_6 (fun H locs hw => ?_)
  refine lv_if_ne (tgt := 14) hx hb dX6_drift_9 (by decide) (fun c3 => ?_) (fun c3 => ?_)
  · rw [if_neg c3] at h80
    refine lv_iconst (v := 0) hx hb dX6_drift_14 (by decide) ?_
    refine lv_istore_n (lv' := [(2, .int 0), (0, .ref m0), (1, .int i1)]) hx hb dX6_drift_15 rfl hl (by decide) rfl (fun ls hl => ?_)
    obtain ⟨q55, q56, o57, h81, h82⟩ := ob3 h80
    clear h80
    have kont52 : ∀ (H : Heap) (locs : List Loc) (ls : Array Slot), Wd d A s.heap (wM cy m0 m1 m2 m3 m4 m5 m6 m7 m8 m9 m10 q55 m_tape m_typed m_place m_isFault m_readWet m_readHarvest m_read q56 o57 m_bestGain m_aside m_kept m_keptUndos m_isKept m_lanes m_sizes m_items m_moved) H locs → lv_has ls 3 [(0, .ref m0)] → W p l e (rmo 7 166) s m args below meth c H locs 0 0 Q (F0 m 116 ls []) := by
      intro H locs ls hw hl
      clear h81
      refine lv_aload_n hx hb dX6_drift_116 rfl (lv_at hl 0 rfl) ?_
      obtain ⟨r78, k79, h83⟩ := ob1 h82
      clear h82
      refine g_vi F (cX6_worthAll_ok l d cy m0 m1 m2 m3 m4 m5 m6 m7 m8 m9 m10 q55 m_tape m_typed m_place m_isFault m_readWet m_readHarvest m_read q56 o57 m_bestGain m_aside m_kept m_keptUndos m_isKept m_lanes m_sizes m_items m_moved r78 k79) cal_X6_worthAll t_866 rfl ⟨by decide, by decide⟩ hw (w' := wM cy m0 m1 m2 m3 m4 m5 m6 m7 m8 m9 m10 q55 m_tape m_typed m_place m_isFault m_readWet m_readHarvest m_read q56 o57 m_bestGain m_aside m_kept m_keptUndos m_isKept m_lanes m_sizes m_items m_moved) Cut.all 0 6 rfl rfl hl.1 (Nat.le_of_ble_eq_true rfl) rfl dX6_drift_117 (fun H locs hw => ?_)
      obtain ⟨rfl, rfl, rfl, rfl⟩ := inj4 h83
      exact hret _ _ _ _ hw dX6_drift_120
    clear h82
    have loop54 : ∀ (n : Nat) (v48 : Int32) (g49 : Nat → Int32) (g50 : Nat → Int32) (v51 : Int32) (H : Heap) (locs : List Loc) (ls : Array Slot), Wd d A s.heap (wM cy m0 m1 m2 m3 m4 m5 m6 m7 m8 m9 m10 g49 m_tape m_typed m_place m_isFault m_readWet m_readHarvest m_read g50 v51 m_bestGain m_aside m_kept m_keptUndos m_isKept m_lanes m_sizes m_items m_moved) H locs → lv_has ls 3 [(0, .ref m0), (1, .int i1), (2, .int v48)] → fX6_drift_L16 i1 n v48 g49 g50 v51 = some (q55, q56, o57) → W p l e (rmo 7 166) s m args below meth c H locs 0 0 Q (F0 m 16 ls []) := by
      intro n
      induction n with
      | zero =>
        intro v48 g49 g50 v51 H locs ls hw hl h84
        rw [fX6_drift_L16] at h84
        cases h84
      | succ n ih53 =>
        intro v48 g49 g50 v51 H locs ls hw hl h85
        rw [fX6_drift_L16] at h85
        refine lv_iload_n hx hb dX6_drift_16 rfl (lv_at hl 2 rfl) ?_
        refine lv_iload_n hx hb dX6_drift_17 rfl (lv_at hl 1 rfl) ?_
        refine lv_icmp_ge (tgt := 116) hx hb dX6_drift_18 (by decide) (fun c58 => ?_) (fun c58 => ?_)
        · rw [if_pos c58] at h85
          obtain ⟨rfl, rfl, rfl⟩ := inj3 h85
          exact kont52 _ _ _ hw (lv_sub hl [0] rfl)
        · rw [if_neg c58] at h85
          refine lv_aload_n hx hb dX6_drift_21 rfl (lv_at hl 0 rfl) ?_
          obtain ⟨f59, x60, k61, h86⟩ := ob2 h85
          clear h85
          refine g_vv F (cX6_notes_ok l d cy m0 m1 m2 m3 m4 m5 m6 m7 m8 m9 m10 g49 m_tape m_typed m_place m_isFault m_readWet m_readHarvest m_read g50 v51 m_bestGain m_aside m_kept m_keptUndos m_isKept m_lanes m_sizes m_items m_moved f59 x60 k61) cal_X6_notes t_934 rfl ⟨by decide, by decide⟩ hw (w' := wM cy m0 m1 m2 m3 m4 m5 m6 m7 m8 m9 m10 g49 m_tape m_typed m_place m_isFault m_readWet m_readHarvest m_read f59 x60 m_bestGain m_aside m_kept m_keptUndos m_isKept m_lanes m_sizes m_items m_moved) Cut.all 0 6 rfl rfl hl.1 (Nat.le_of_ble_eq_true rfl) rfl dX6_drift_22 (fun H locs hw => ?_)
          refine lv_aload_n hx hb dX6_drift_25 rfl (lv_at hl 0 rfl) ?_
          refine g_get F inG6 hw 0 rfl rfl 0 (by decide) t_730 (fun _ h9 => h9) rfl dX6_drift_26 ?_
          refine lv_iconst (v := 4) hx hb dX6_drift_29 (by decide) ?_
          refine lv_aload_n hx hb dX6_drift_30 rfl (lv_at hl 0 rfl) ?_
          refine g_get F inG6 hw 0 rfl rfl 0 (by decide) t_730 (fun _ h9 => h9) rfl dX6_drift_31 ?_
          refine lv_iconst (v := 4) hx hb dX6_drift_34 (by decide) ?_
          obtain ⟨j62, k63, h87⟩ := ob1 h86
          clear h86
          refine g_iald F hw 1 rfl k63 dX6_drift_35 ?_
          refine lv_i2l hx hb dX6_drift_36 rfl ?_
          refine lv_ldc2 (v := 1103515245) hx hb F.2.2.2.2.2.1 (F.2.2.2.2.2.2.1 _ t_963) dX6_drift_37 ?_
          refine lv_lmul hx hb dX6_drift_40 ?_
          refine lv_ldc2 (v := 12345) hx hb F.2.2.2.2.2.1 (F.2.2.2.2.2.2.1 _ t_964) dX6_drift_41 ?_
          refine lv_ladd hx hb dX6_drift_44 ?_
          refine lv_ldc2 (v := 2147483647) hx hb F.2.2.2.2.2.1 (F.2.2.2.2.2.2.1 _ t_965) dX6_drift_45 ?_
          refine lv_land hx hb dX6_drift_48 ?_
          refine lv_l2i hx hb dX6_drift_49 rfl ?_
          refine g_iast F hw 1 rfl k63 dX6_drift_50 (w' := wM cy m0 m1 m2 m3 m4 m5 m6 m7 m8 m9 m10 (upd g49 j62 (Int64.toInt32 ((((Int32.toInt64 (g49 j62)) * 1103515245) + 12345) &&& 2147483647))) m_tape m_typed m_place m_isFault m_readWet m_readHarvest m_read f59 x60 m_bestGain m_aside m_kept m_keptUndos m_isKept m_lanes m_sizes m_items m_moved) rfl (fun H locs hw => ?_)
          refine lv_aload_n hx hb dX6_drift_51 rfl (lv_at hl 0 rfl) ?_
          refine g_get F inG6 hw 0 rfl rfl 0 (by decide) t_730 (fun _ h9 => h9) rfl dX6_drift_52 ?_
          refine lv_iconst (v := 0) hx hb dX6_drift_55 (by decide) ?_
          obtain ⟨j64, k65, h88⟩ := ob1 h87
          clear h87
          refine g_iald F hw 1 rfl k65 dX6_drift_56 ?_
          obtain ⟨f71, h89, h90⟩ := ob1 h88
          clear h88
          have kont72 : ∀ (H : Heap) (locs : List Loc) (ls : Array Slot), Wd d A s.heap (wM cy m0 m1 m2 m3 m4 m5 m6 m7 m8 m9 m10 f71 m_tape m_typed m_place m_isFault m_readWet m_readHarvest m_read f59 x60 m_bestGain m_aside m_kept m_keptUndos m_isKept m_lanes m_sizes m_items m_moved) H locs → lv_has ls 3 [(0, .ref m0), (1, .int i1), (2, .int v48)] → W p l e (rmo 7 166) s m args below meth c H locs 0 0 Q (F0 m 110 ls []) := by
            intro H locs ls hw hl
            clear h89
            refine lv_iinc (v := (v48 + 1)) (lv' := [(2, .int (v48 + 1)), (0, .ref m0), (1, .int i1)]) hx hb dX6_drift_110 hl (k := 2) rfl rfl (by decide) rfl (fun ls hl => ?_)
            refine lv_goto (tgt := 16) hx hb dX6_drift_113 (by decide) ?_
            exact ih53 (v48 + 1) f71 f59 x60 _ _ _ hw (lv_sub hl [1, 2, 0] rfl) h90
          clear h90
          refine lv_if_le (tgt := 110) hx hb dX6_drift_57 (by decide) (fun c73 => ?_) (fun c73 => ?_)
          · rw [if_pos c73] at h89
            obtain rfl := inj1 h89
            exact kont72 _ _ _ hw (lv_sub hl [0, 1, 2] rfl)
          · rw [if_neg c73] at h89
            refine lv_aload_n hx hb dX6_drift_60 rfl (lv_at hl 0 rfl) ?_
            refine lv_aload_n hx hb dX6_drift_61 rfl (lv_at hl 0 rfl) ?_
            refine g_get F inG6 hw 0 rfl rfl 0 (by decide) t_730 (fun _ h9 => h9) rfl dX6_drift_62 ?_
            refine lv_iconst (v := 4) hx hb dX6_drift_65 (by decide) ?_
            refine g_iald F hw 1 rfl k63 dX6_drift_66 ?_
            refine lv_ldc (v := 65536) hx hb F.2.2.2.2.2.1 (F.2.2.2.2.2.2.1 _ t_966) dX6_drift_67 ?_
            refine lv_idiv hx hb dX6_drift_69 (by decide) ?_
            refine lv_aload_n hx hb dX6_drift_70 rfl (lv_at hl 0 rfl) ?_
            refine g_get F inG6 hw 0 rfl rfl 0 (by decide) t_730 (fun _ h9 => h9) rfl dX6_drift_71 ?_
            refine lv_iconst (v := 0) hx hb dX6_drift_74 (by decide) ?_
            refine g_iald F hw 1 rfl k65 dX6_drift_75 ?_
            obtain ⟨k74, h91⟩ := ob0 h89
            clear h89
            refine lv_irem hx hb dX6_drift_76 (nz_ne k74) ?_
            refine lv_aload_n hx hb dX6_drift_77 rfl (lv_at hl 0 rfl) ?_
            refine g_get F inG6 hw 0 rfl rfl 0 (by decide) t_730 (fun _ h9 => h9) rfl dX6_drift_78 ?_
            refine lv_iconst (v := 4) hx hb dX6_drift_81 (by decide) ?_
            refine g_iald F hw 1 rfl k63 dX6_drift_82 ?_
            refine lv_sipush (v := 1024) hx hb dX6_drift_83 (by decide) ?_
            refine lv_idiv hx hb dX6_drift_86 (by decide) ?_
            refine lv_aload_n hx hb dX6_drift_87 rfl (lv_at hl 0 rfl) ?_
            refine g_get F inG6 hw 0 rfl rfl 0 (by decide) t_730 (fun _ h9 => h9) rfl dX6_drift_88 ?_
            refine lv_iconst (v := 0) hx hb dX6_drift_91 (by decide) ?_
            refine g_iald F hw 1 rfl k65 dX6_drift_92 ?_
            obtain ⟨k75, h92⟩ := ob0 h91
            clear h91
            refine lv_irem hx hb dX6_drift_93 (nz_ne k75) ?_
            refine lv_aload_n hx hb dX6_drift_94 rfl (lv_at hl 0 rfl) ?_
            refine g_get F inG6 hw 0 rfl rfl 0 (by decide) t_730 (fun _ h9 => h9) rfl dX6_drift_95 ?_
            refine lv_iconst (v := 4) hx hb dX6_drift_98 (by decide) ?_
            refine g_iald F hw 1 rfl k63 dX6_drift_99 ?_
            refine lv_sipush (v := 128) hx hb dX6_drift_100 (by decide) ?_
            refine lv_idiv hx hb dX6_drift_103 (by decide) ?_
            refine lv_bipush (v := 12) hx hb dX6_drift_104 (by decide) ?_
            refine lv_irem hx hb dX6_drift_106 (by decide) ?_
            obtain ⟨f76, k77, h93⟩ := ob1 h92
            clear h92
            refine g_vv F (cX6_trades_ok l d cy m0 m1 m2 m3 m4 m5 m6 m7 m8 m9 m10 (upd g49 j62 (Int64.toInt32 ((((Int32.toInt64 (g49 j62)) * 1103515245) + 12345) &&& 2147483647))) m_tape m_typed m_place m_isFault m_readWet m_readHarvest m_read f59 x60 m_bestGain m_aside m_kept m_keptUndos m_isKept m_lanes m_sizes m_items m_moved ((((upd g49 j62 (Int64.toInt32 ((((Int32.toInt64 (g49 j62)) * 1103515245) + 12345) &&& 2147483647))) j62) / 65536) - (((upd g49 j62 (Int64.toInt32 ((((Int32.toInt64 (g49 j62)) * 1103515245) + 12345) &&& 2147483647))) j62) / 65536) / ((upd g49 j62 (Int64.toInt32 ((((Int32.toInt64 (g49 j62)) * 1103515245) + 12345) &&& 2147483647))) j64) * ((upd g49 j62 (Int64.toInt32 ((((Int32.toInt64 (g49 j62)) * 1103515245) + 12345) &&& 2147483647))) j64)) ((((upd g49 j62 (Int64.toInt32 ((((Int32.toInt64 (g49 j62)) * 1103515245) + 12345) &&& 2147483647))) j62) / 1024) - (((upd g49 j62 (Int64.toInt32 ((((Int32.toInt64 (g49 j62)) * 1103515245) + 12345) &&& 2147483647))) j62) / 1024) / ((upd g49 j62 (Int64.toInt32 ((((Int32.toInt64 (g49 j62)) * 1103515245) + 12345) &&& 2147483647))) j64) * ((upd g49 j62 (Int64.toInt32 ((((Int32.toInt64 (g49 j62)) * 1103515245) + 12345) &&& 2147483647))) j64)) ((((upd g49 j62 (Int64.toInt32 ((((Int32.toInt64 (g49 j62)) * 1103515245) + 12345) &&& 2147483647))) j62) / 128) - (((upd g49 j62 (Int64.toInt32 ((((Int32.toInt64 (g49 j62)) * 1103515245) + 12345) &&& 2147483647))) j62) / 128) / 12 * 12) f76 k77) cal_X6_trades t_967 rfl ⟨by decide, by decide⟩ hw (w' := wM cy m0 m1 m2 m3 m4 m5 m6 m7 m8 m9 m10 f76 m_tape m_typed m_place m_isFault m_readWet m_readHarvest m_read f59 x60 m_bestGain m_aside m_kept m_keptUndos m_isKept m_lanes m_sizes m_items m_moved) Cut.all 0 6 rfl rfl hl.1 (Nat.le_of_ble_eq_true rfl) rfl dX6_drift_107 (fun H locs hw => ?_)
            obtain rfl := inj1 h93
            exact kont72 _ _ _ hw (lv_sub hl [0, 1, 2] rfl)
    exact loop54 fl 0 m_now m_undone m_undos _ _ _ hw (lv_sub hl [1, 2, 0] rfl) h81
  · rw [if_pos c3] at h80
    refine lv_iconst (v := (-1)) hx hb dX6_drift_12 (by decide) ?_
    obtain ⟨rfl, rfl, rfl, rfl⟩ := inj4 h80
    exact hret _ _ _ _ hw dX6_drift_13
theorem cal_X6_undo : CalV yX6_undo cX6_undo 3 (some .int) RX6 0 := ⟨t_978, t_976, t_977, t_43, by decide +kernel⟩
set_option maxHeartbeats 4000000 in
set_option maxRecDepth 100000 in
theorem cX6_undo_ok (l : Launch) (d : va_G) (cy : Nat → ClassId) (m0 m1 m2 m3 m4 m5 m6 m7 m8 m9 m10 : Nat) (m_now : Nat → Int32) (m_tape : Nat → Int32) (m_typed : Int32) (m_place : Int32) (m_isFault : Int32) (m_readWet : Int32) (m_readHarvest : Int32) (m_read : Nat → Int32) (m_undone : Nat → Int32) (m_undos : Int32) (m_bestGain : Int32) (m_aside : Nat → Int32) (m_kept : Nat → Int32) (m_keptUndos : Int32) (m_isKept : Int32) (m_lanes : Nat → Int32) (m_sizes : Nat → Int32) (m_items : Nat → Int64) (m_moved : Nat → Int64) (r : Int32) (m_now_r : Nat → Int32) (m_undos_r : Int32) (h0 : fX6_undo m_now m_undone m_undos = some (r, m_now_r, m_undos_r)) : CI l yX6_undo cX6_undo 3 (some .int) 0 0 d cy [.ref m0] (wM cy m0 m1 m2 m3 m4 m5 m6 m7 m8 m9 m10 m_now m_tape m_typed m_place m_isFault m_readWet m_readHarvest m_read m_undone m_undos m_bestGain m_aside m_kept m_keptUndos m_isKept m_lanes m_sizes m_items m_moved) (wM cy m0 m1 m2 m3 m4 m5 m6 m7 m8 m9 m10 m_now_r m_tape m_typed m_place m_isFault m_readWet m_readHarvest m_read m_undone m_undos_r m_bestGain m_aside m_kept m_keptUndos m_isKept m_lanes m_sizes m_items m_moved) r := by
  refine CI.of (by decide) (Nat.le_of_ble_eq_true rfl) ?_
  intro p e s m args below meth c A ls Q F hret hw hl
  have hx := F.1
  have hb := F.2.1
  have hl : lv_has ls 3 [(0, .ref m0)] := hl
  rw [fX6_undo] at h0
  refine lv_aload_n hx hb dX6_undo_0 rfl (lv_at hl 0 rfl) ?_
  refine g_get F inG6 hw 0 rfl rfl 9 (by decide) t_739 (fun _ h9 => h9) rfl dX6_undo_1 ?_
  refine lv_if_ne (tgt := 10) hx hb dX6_undo_4 (by decide) (fun c1 => ?_) (fun c1 => ?_)
  · rw [if_neg c1] at h0
    refine lv_aload_n hx hb dX6_undo_10 rfl (lv_at hl 0 rfl) ?_
    refine lv_dup hx hb dX6_undo_11 rfl ?_
    refine g_get F inG6 hw 0 rfl rfl 9 (by decide) t_739 (fun _ h9 => h9) rfl dX6_undo_12 ?_
    refine lv_iconst (v := 1) hx hb dX6_undo_15 (by decide) ?_
    refine lv_isub hx hb dX6_undo_16 ?_
    refine g_put F inG6 tyX6 tyX6_ok nmX6 hw 0 rfl rfl 9 (by decide) t_739 (fun _ h9 => h9) rfl (ty := .int) (by decide +kernel) rfl rfl (Nat.le_of_ble_eq_true rfl) dX6_undo_17 (w' := wM cy m0 m1 m2 m3 m4 m5 m6 m7 m8 m9 m10 m_now m_tape m_typed m_place m_isFault m_readWet m_readHarvest m_read m_undone (m_undos - 1) m_bestGain m_aside m_kept m_keptUndos m_isKept m_lanes m_sizes m_items m_moved) rfl (fun H locs hw => ?_)
    refine lv_bipush (v := 81) hx hb dX6_undo_20 (by decide) ?_
    refine lv_aload_n hx hb dX6_undo_22 rfl (lv_at hl 0 rfl) ?_
    refine g_get F inG6 hw 0 rfl rfl 9 (by decide) t_739 (fun _ h9 => h9) rfl dX6_undo_23 ?_
    refine lv_imul hx hb dX6_undo_26 ?_
    refine lv_istore_n (lv' := [(1, .int (81 * (m_undos - 1))), (0, .ref m0)]) hx hb dX6_undo_27 rfl hl (by decide) rfl (fun ls hl => ?_)
    refine lv_iconst (v := 0) hx hb dX6_undo_28 (by decide) ?_
    refine lv_istore_n (lv' := [(2, .int 0), (1, .int (81 * (m_undos - 1))), (0, .ref m0)]) hx hb dX6_undo_29 rfl hl (by decide) rfl (fun ls hl => ?_)
    obtain ⟨q19, h71, h72⟩ := ob1 h0
    clear h0
    have kont16 : ∀ (H : Heap) (locs : List Loc) (ls : Array Slot), Wd d A s.heap (wM cy m0 m1 m2 m3 m4 m5 m6 m7 m8 m9 m10 q19 m_tape m_typed m_place m_isFault m_readWet m_readHarvest m_read m_undone (m_undos - 1) m_bestGain m_aside m_kept m_keptUndos m_isKept m_lanes m_sizes m_items m_moved) H locs → lv_has ls 3 [(0, .ref m0), (1, .int (81 * (m_undos - 1)))] → W p l e (rmo 0 0) s m args below meth c H locs 0 0 Q (F0 m 57 ls []) := by
      intro H locs ls hw hl
      clear h71
      refine lv_iconst (v := 0) hx hb dX6_undo_57 (by decide) ?_
      refine lv_istore_n (lv' := [(2, .int 0), (0, .ref m0), (1, .int (81 * (m_undos - 1)))]) hx hb dX6_undo_58 rfl hl (by decide) rfl (fun ls hl => ?_)
      obtain ⟨q42, h73, h74⟩ := ob1 h72
      clear h72
      have kont39 : ∀ (H : Heap) (locs : List Loc) (ls : Array Slot), Wd d A s.heap (wM cy m0 m1 m2 m3 m4 m5 m6 m7 m8 m9 m10 q42 m_tape m_typed m_place m_isFault m_readWet m_readHarvest m_read m_undone (m_undos - 1) m_bestGain m_aside m_kept m_keptUndos m_isKept m_lanes m_sizes m_items m_moved) H locs → lv_has ls 3 [(0, .ref m0), (1, .int (81 * (m_undos - 1)))] → W p l e (rmo 0 0) s m args below meth c H locs 0 0 Q (F0 m 93 ls []) := by
        intro H locs ls hw hl
        clear h73
        refine lv_iconst (v := 0) hx hb dX6_undo_93 (by decide) ?_
        refine lv_istore_n (lv' := [(2, .int 0), (0, .ref m0), (1, .int (81 * (m_undos - 1)))]) hx hb dX6_undo_94 rfl hl (by decide) rfl (fun ls hl => ?_)
        obtain ⟨q65, h75, h76⟩ := ob1 h74
        clear h74
        have kont62 : ∀ (H : Heap) (locs : List Loc) (ls : Array Slot), Wd d A s.heap (wM cy m0 m1 m2 m3 m4 m5 m6 m7 m8 m9 m10 q65 m_tape m_typed m_place m_isFault m_readWet m_readHarvest m_read m_undone (m_undos - 1) m_bestGain m_aside m_kept m_keptUndos m_isKept m_lanes m_sizes m_items m_moved) H locs → lv_has ls 3 [(0, .ref m0)] → W p l e (rmo 0 0) s m args below meth c H locs 0 0 Q (F0 m 127 ls []) := by
          intro H locs ls hw hl
          clear h75
          refine lv_aload_n hx hb dX6_undo_127 rfl (lv_at hl 0 rfl) ?_
          refine g_get F inG6 hw 0 rfl rfl 9 (by decide) t_739 (fun _ h9 => h9) rfl dX6_undo_128 ?_
          obtain ⟨rfl, rfl, rfl⟩ := inj3 h76
          exact hret _ _ _ _ hw dX6_undo_131
        clear h76
        have loop64 : ∀ (n : Nat) (v60 : Int32) (g61 : Nat → Int32) (H : Heap) (locs : List Loc) (ls : Array Slot), Wd d A s.heap (wM cy m0 m1 m2 m3 m4 m5 m6 m7 m8 m9 m10 g61 m_tape m_typed m_place m_isFault m_readWet m_readHarvest m_read m_undone (m_undos - 1) m_bestGain m_aside m_kept m_keptUndos m_isKept m_lanes m_sizes m_items m_moved) H locs → lv_has ls 3 [(0, .ref m0), (1, .int (81 * (m_undos - 1))), (2, .int v60)] → fX6_undo_L95 m_undone m_undos n v60 g61 = some (q65) → W p l e (rmo 0 0) s m args below meth c H locs 0 0 Q (F0 m 95 ls []) := by
          intro n
          induction n with
          | zero =>
            intro v60 g61 H locs ls hw hl h77
            rw [fX6_undo_L95] at h77
            cases h77
          | succ n ih63 =>
            intro v60 g61 H locs ls hw hl h78
            rw [fX6_undo_L95] at h78
            refine lv_iload_n hx hb dX6_undo_95 rfl (lv_at hl 2 rfl) ?_
            refine lv_bipush (v := 72) hx hb dX6_undo_96 (by decide) ?_
            refine lv_icmp_ge (tgt := 127) hx hb dX6_undo_98 (by decide) (fun c66 => ?_) (fun c66 => ?_)
            · rw [if_pos c66] at h78
              obtain rfl := inj1 h78
              exact kont62 _ _ _ hw (lv_sub hl [0] rfl)
            · rw [if_neg c66] at h78
              refine lv_aload_n hx hb dX6_undo_101 rfl (lv_at hl 0 rfl) ?_
              refine g_get F inG6 hw 0 rfl rfl 0 (by decide) t_730 (fun _ h9 => h9) rfl dX6_undo_102 ?_
              refine lv_bipush (v := 23) hx hb dX6_undo_105 (by decide) ?_
              refine lv_iload_n hx hb dX6_undo_107 rfl (lv_at hl 2 rfl) ?_
              refine lv_iadd hx hb dX6_undo_108 ?_
              refine lv_aload_n hx hb dX6_undo_109 rfl (lv_at hl 0 rfl) ?_
              refine g_get F inG6 hw 0 rfl rfl 8 (by decide) t_738 (fun _ h9 => h9) rfl dX6_undo_110 ?_
              refine lv_iload_n hx hb dX6_undo_113 rfl (lv_at hl 1 rfl) ?_
              refine lv_bipush (v := 9) hx hb dX6_undo_114 (by decide) ?_
              refine lv_iadd hx hb dX6_undo_116 ?_
              refine lv_iload_n hx hb dX6_undo_117 rfl (lv_at hl 2 rfl) ?_
              refine lv_iadd hx hb dX6_undo_118 ?_
              obtain ⟨j67, k68, h79⟩ := ob1 h78
              clear h78
              refine g_iald F hw 4 rfl k68 dX6_undo_119 ?_
              obtain ⟨j69, k70, h80⟩ := ob1 h79
              clear h79
              refine g_iast F hw 1 rfl k70 dX6_undo_120 (w' := wM cy m0 m1 m2 m3 m4 m5 m6 m7 m8 m9 m10 (upd g61 j69 (m_undone j67)) m_tape m_typed m_place m_isFault m_readWet m_readHarvest m_read m_undone (m_undos - 1) m_bestGain m_aside m_kept m_keptUndos m_isKept m_lanes m_sizes m_items m_moved) rfl (fun H locs hw => ?_)
              refine lv_iinc (v := (v60 + 1)) (lv' := [(2, .int (v60 + 1)), (0, .ref m0), (1, .int (81 * (m_undos - 1)))]) hx hb dX6_undo_121 hl (k := 2) rfl rfl (by decide) rfl (fun ls hl => ?_)
              refine lv_goto (tgt := 95) hx hb dX6_undo_124 (by decide) ?_
              exact ih63 (v60 + 1) (upd g61 j69 (m_undone j67)) _ _ _ hw (lv_sub hl [1, 2, 0] rfl) h80
        exact loop64 fl 0 q42 _ _ _ hw (lv_sub hl [1, 2, 0] rfl) h75
      clear h74
      have loop41 : ∀ (n : Nat) (v37 : Int32) (g38 : Nat → Int32) (H : Heap) (locs : List Loc) (ls : Array Slot), Wd d A s.heap (wM cy m0 m1 m2 m3 m4 m5 m6 m7 m8 m9 m10 g38 m_tape m_typed m_place m_isFault m_readWet m_readHarvest m_read m_undone (m_undos - 1) m_bestGain m_aside m_kept m_keptUndos m_isKept m_lanes m_sizes m_items m_moved) H locs → lv_has ls 3 [(0, .ref m0), (1, .int (81 * (m_undos - 1))), (2, .int v37)] → fX6_undo_L59 m_undone m_undos n v37 g38 = some (q42) → W p l e (rmo 0 0) s m args below meth c H locs 0 0 Q (F0 m 59 ls []) := by
        intro n
        induction n with
        | zero =>
          intro v37 g38 H locs ls hw hl h81
          rw [fX6_undo_L59] at h81
          cases h81
        | succ n ih40 =>
          intro v37 g38 H locs ls hw hl h82
          rw [fX6_undo_L59] at h82
          refine lv_iload_n hx hb dX6_undo_59 rfl (lv_at hl 2 rfl) ?_
          refine lv_bipush (v := 6) hx hb dX6_undo_60 (by decide) ?_
          refine lv_icmp_ge (tgt := 93) hx hb dX6_undo_62 (by decide) (fun c43 => ?_) (fun c43 => ?_)
          · rw [if_pos c43] at h82
            obtain rfl := inj1 h82
            exact kont39 _ _ _ hw (lv_sub hl [0, 1] rfl)
          · rw [if_neg c43] at h82
            refine lv_aload_n hx hb dX6_undo_65 rfl (lv_at hl 0 rfl) ?_
            refine g_get F inG6 hw 0 rfl rfl 0 (by decide) t_730 (fun _ h9 => h9) rfl dX6_undo_66 ?_
            refine lv_iconst (v := 5) hx hb dX6_undo_69 (by decide) ?_
            refine lv_iconst (v := 3) hx hb dX6_undo_70 (by decide) ?_
            refine lv_iload_n hx hb dX6_undo_71 rfl (lv_at hl 2 rfl) ?_
            refine lv_imul hx hb dX6_undo_72 ?_
            refine lv_iadd hx hb dX6_undo_73 ?_
            refine lv_iconst (v := 2) hx hb dX6_undo_74 (by decide) ?_
            refine lv_iadd hx hb dX6_undo_75 ?_
            refine lv_aload_n hx hb dX6_undo_76 rfl (lv_at hl 0 rfl) ?_
            refine g_get F inG6 hw 0 rfl rfl 8 (by decide) t_738 (fun _ h9 => h9) rfl dX6_undo_77 ?_
            refine lv_iload_n hx hb dX6_undo_80 rfl (lv_at hl 1 rfl) ?_
            refine lv_iconst (v := 3) hx hb dX6_undo_81 (by decide) ?_
            refine lv_iadd hx hb dX6_undo_82 ?_
            refine lv_iload_n hx hb dX6_undo_83 rfl (lv_at hl 2 rfl) ?_
            refine lv_iadd hx hb dX6_undo_84 ?_
            obtain ⟨j44, k45, h83⟩ := ob1 h82
            clear h82
            refine g_iald F hw 4 rfl k45 dX6_undo_85 ?_
            obtain ⟨j46, k47, h84⟩ := ob1 h83
            clear h83
            refine g_iast F hw 1 rfl k47 dX6_undo_86 (w' := wM cy m0 m1 m2 m3 m4 m5 m6 m7 m8 m9 m10 (upd g38 j46 (m_undone j44)) m_tape m_typed m_place m_isFault m_readWet m_readHarvest m_read m_undone (m_undos - 1) m_bestGain m_aside m_kept m_keptUndos m_isKept m_lanes m_sizes m_items m_moved) rfl (fun H locs hw => ?_)
            refine lv_iinc (v := (v37 + 1)) (lv' := [(2, .int (v37 + 1)), (0, .ref m0), (1, .int (81 * (m_undos - 1)))]) hx hb dX6_undo_87 hl (k := 2) rfl rfl (by decide) rfl (fun ls hl => ?_)
            refine lv_goto (tgt := 59) hx hb dX6_undo_90 (by decide) ?_
            exact ih40 (v37 + 1) (upd g38 j46 (m_undone j44)) _ _ _ hw (lv_sub hl [1, 2, 0] rfl) h84
      exact loop41 fl 0 q19 _ _ _ hw (lv_sub hl [1, 2, 0] rfl) h73
    clear h72
    have loop18 : ∀ (n : Nat) (v14 : Int32) (g15 : Nat → Int32) (H : Heap) (locs : List Loc) (ls : Array Slot), Wd d A s.heap (wM cy m0 m1 m2 m3 m4 m5 m6 m7 m8 m9 m10 g15 m_tape m_typed m_place m_isFault m_readWet m_readHarvest m_read m_undone (m_undos - 1) m_bestGain m_aside m_kept m_keptUndos m_isKept m_lanes m_sizes m_items m_moved) H locs → lv_has ls 3 [(0, .ref m0), (1, .int (81 * (m_undos - 1))), (2, .int v14)] → fX6_undo_L30 m_undone m_undos n v14 g15 = some (q19) → W p l e (rmo 0 0) s m args below meth c H locs 0 0 Q (F0 m 30 ls []) := by
      intro n
      induction n with
      | zero =>
        intro v14 g15 H locs ls hw hl h85
        rw [fX6_undo_L30] at h85
        cases h85
      | succ n ih17 =>
        intro v14 g15 H locs ls hw hl h86
        rw [fX6_undo_L30] at h86
        refine lv_iload_n hx hb dX6_undo_30 rfl (lv_at hl 2 rfl) ?_
        refine lv_iconst (v := 3) hx hb dX6_undo_31 (by decide) ?_
        refine lv_icmp_ge (tgt := 57) hx hb dX6_undo_32 (by decide) (fun c20 => ?_) (fun c20 => ?_)
        · rw [if_pos c20] at h86
          obtain rfl := inj1 h86
          exact kont16 _ _ _ hw (lv_sub hl [0, 1] rfl)
        · rw [if_neg c20] at h86
          refine lv_aload_n hx hb dX6_undo_35 rfl (lv_at hl 0 rfl) ?_
          refine g_get F inG6 hw 0 rfl rfl 0 (by decide) t_730 (fun _ h9 => h9) rfl dX6_undo_36 ?_
          refine lv_iconst (v := 2) hx hb dX6_undo_39 (by decide) ?_
          refine lv_iload_n hx hb dX6_undo_40 rfl (lv_at hl 2 rfl) ?_
          refine lv_iadd hx hb dX6_undo_41 ?_
          refine lv_aload_n hx hb dX6_undo_42 rfl (lv_at hl 0 rfl) ?_
          refine g_get F inG6 hw 0 rfl rfl 8 (by decide) t_738 (fun _ h9 => h9) rfl dX6_undo_43 ?_
          refine lv_iload_n hx hb dX6_undo_46 rfl (lv_at hl 1 rfl) ?_
          refine lv_iload_n hx hb dX6_undo_47 rfl (lv_at hl 2 rfl) ?_
          refine lv_iadd hx hb dX6_undo_48 ?_
          obtain ⟨j21, k22, h87⟩ := ob1 h86
          clear h86
          refine g_iald F hw 4 rfl k22 dX6_undo_49 ?_
          obtain ⟨j23, k24, h88⟩ := ob1 h87
          clear h87
          refine g_iast F hw 1 rfl k24 dX6_undo_50 (w' := wM cy m0 m1 m2 m3 m4 m5 m6 m7 m8 m9 m10 (upd g15 j23 (m_undone j21)) m_tape m_typed m_place m_isFault m_readWet m_readHarvest m_read m_undone (m_undos - 1) m_bestGain m_aside m_kept m_keptUndos m_isKept m_lanes m_sizes m_items m_moved) rfl (fun H locs hw => ?_)
          refine lv_iinc (v := (v14 + 1)) (lv' := [(2, .int (v14 + 1)), (0, .ref m0), (1, .int (81 * (m_undos - 1)))]) hx hb dX6_undo_51 hl (k := 2) rfl rfl (by decide) rfl (fun ls hl => ?_)
          refine lv_goto (tgt := 30) hx hb dX6_undo_54 (by decide) ?_
          exact ih17 (v14 + 1) (upd g15 j23 (m_undone j21)) _ _ _ hw (lv_sub hl [1, 2, 0] rfl) h88
    exact loop18 fl 0 m_now _ _ _ hw (lv_sub hl [2, 1, 0] rfl) h71
  · rw [if_pos c1] at h0
    refine lv_bipush (v := (-4)) hx hb dX6_undo_7 (by decide) ?_
    obtain ⟨rfl, rfl, rfl⟩ := inj3 h0
    exact hret _ _ _ _ hw dX6_undo_9
theorem cal_X6_seed : CalV yX6_seed cX6_seed 3 (some .int) RX6 1 := ⟨t_982, t_980, t_981, t_43, by decide +kernel⟩
set_option maxHeartbeats 4000000 in
set_option maxRecDepth 100000 in
theorem cX6_seed_ok (l : Launch) (d : va_G) (cy : Nat → ClassId) (m0 m1 m2 m3 m4 m5 m6 m7 m8 m9 m10 : Nat) (m_now : Nat → Int32) (m_tape : Nat → Int32) (m_typed : Int32) (m_place : Int32) (m_isFault : Int32) (m_readWet : Int32) (m_readHarvest : Int32) (m_read : Nat → Int32) (m_undone : Nat → Int32) (m_undos : Int32) (m_bestGain : Int32) (m_aside : Nat → Int32) (m_kept : Nat → Int32) (m_keptUndos : Int32) (m_isKept : Int32) (m_lanes : Nat → Int32) (m_sizes : Nat → Int32) (m_items : Nat → Int64) (m_moved : Nat → Int64) (i1 : Int32) (r : Int32) (m_now_r : Nat → Int32) (h0 : fX6_seed m_now i1 = some (r, m_now_r)) : CI l yX6_seed cX6_seed 3 (some .int) 0 0 d cy [.ref m0, .int i1] (wM cy m0 m1 m2 m3 m4 m5 m6 m7 m8 m9 m10 m_now m_tape m_typed m_place m_isFault m_readWet m_readHarvest m_read m_undone m_undos m_bestGain m_aside m_kept m_keptUndos m_isKept m_lanes m_sizes m_items m_moved) (wM cy m0 m1 m2 m3 m4 m5 m6 m7 m8 m9 m10 m_now_r m_tape m_typed m_place m_isFault m_readWet m_readHarvest m_read m_undone m_undos m_bestGain m_aside m_kept m_keptUndos m_isKept m_lanes m_sizes m_items m_moved) r := by
  refine CI.of (by decide) (Nat.le_of_ble_eq_true rfl) ?_
  intro p e s m args below meth c A ls Q F hret hw hl
  have hx := F.1
  have hb := F.2.1
  have hl : lv_has ls 3 [(0, .ref m0), (1, .int i1)] := hl
  rw [fX6_seed] at h0
  refine lv_iload_n hx hb dX6_seed_0 rfl (lv_at hl 1 rfl) ?_
  refine lv_if_ge (tgt := 6) hx hb dX6_seed_1 (by decide) (fun c1 => ?_) (fun c1 => ?_)
  · rw [if_pos c1] at h0
    refine lv_aload_n hx hb dX6_seed_6 rfl (lv_at hl 0 rfl) ?_
    refine g_get F inG6 hw 0 rfl rfl 0 (by decide) t_730 (fun _ h9 => h9) rfl dX6_seed_7 ?_
    refine lv_iconst (v := 4) hx hb dX6_seed_10 (by decide) ?_
    obtain ⟨j2, k3, h4⟩ := ob1 h0
    clear h0
    refine g_iald F hw 1 rfl k3 dX6_seed_11 ?_
    refine lv_istore_n (lv' := [(2, .int (m_now j2)), (0, .ref m0), (1, .int i1)]) hx hb dX6_seed_12 rfl hl (by decide) rfl (fun ls hl => ?_)
    refine lv_aload_n hx hb dX6_seed_13 rfl (lv_at hl 1 rfl) ?_
    refine g_get F inG6 hw 0 rfl rfl 0 (by decide) t_730 (fun _ h9 => h9) rfl dX6_seed_14 ?_
    refine lv_iconst (v := 4) hx hb dX6_seed_17 (by decide) ?_
    refine lv_iload_n hx hb dX6_seed_18 rfl (lv_at hl 2 rfl) ?_
    refine g_iast F hw 1 rfl k3 dX6_seed_19 (w' := wM cy m0 m1 m2 m3 m4 m5 m6 m7 m8 m9 m10 (upd m_now j2 i1) m_tape m_typed m_place m_isFault m_readWet m_readHarvest m_read m_undone m_undos m_bestGain m_aside m_kept m_keptUndos m_isKept m_lanes m_sizes m_items m_moved) rfl (fun H locs hw => ?_)
    refine lv_iload_n hx hb dX6_seed_20 rfl (lv_at hl 0 rfl) ?_
    obtain ⟨rfl, rfl⟩ := inj2 h4
    exact hret _ _ _ _ hw dX6_seed_21
  · rw [if_neg c1] at h0
    refine lv_iconst (v := (-1)) hx hb dX6_seed_4 (by decide) ?_
    obtain ⟨rfl, rfl⟩ := inj2 h0
    exact hret _ _ _ _ hw dX6_seed_5
theorem cal_X6_gainOf : CalV yX6_gainOf cX6_gainOf 6 (some .int) RX6 3 := ⟨t_990, t_989, t_30, t_43, by decide +kernel⟩
set_option maxHeartbeats 4000000 in
set_option maxRecDepth 100000 in
theorem cX6_gainOf_ok (l : Launch) (d : va_G) (cy : Nat → ClassId) (m0 m1 m2 m3 m4 m5 m6 m7 m8 m9 m10 : Nat) (m_now : Nat → Int32) (m_tape : Nat → Int32) (m_typed : Int32) (m_place : Int32) (m_isFault : Int32) (m_readWet : Int32) (m_readHarvest : Int32) (m_read : Nat → Int32) (m_undone : Nat → Int32) (m_undos : Int32) (m_bestGain : Int32) (m_aside : Nat → Int32) (m_kept : Nat → Int32) (m_keptUndos : Int32) (m_isKept : Int32) (m_lanes : Nat → Int32) (m_sizes : Nat → Int32) (m_items : Nat → Int64) (m_moved : Nat → Int64) (i1 : Int32) (i2 : Int32) (i3 : Int32) (r : Int32) (m_now_r : Nat → Int32) (h0 : fX6_gainOf m_now i1 i2 i3 = some (r, m_now_r)) : CI l yX6_gainOf cX6_gainOf 6 (some .int) 6 138 d cy [.ref m0, .int i1, .int i2, .int i3] (wM cy m0 m1 m2 m3 m4 m5 m6 m7 m8 m9 m10 m_now m_tape m_typed m_place m_isFault m_readWet m_readHarvest m_read m_undone m_undos m_bestGain m_aside m_kept m_keptUndos m_isKept m_lanes m_sizes m_items m_moved) (wM cy m0 m1 m2 m3 m4 m5 m6 m7 m8 m9 m10 m_now_r m_tape m_typed m_place m_isFault m_readWet m_readHarvest m_read m_undone m_undos m_bestGain m_aside m_kept m_keptUndos m_isKept m_lanes m_sizes m_items m_moved) r := by
  refine CI.of (by decide) (Nat.le_of_ble_eq_true rfl) ?_
  intro p e s m args below meth c A ls Q F hret hw hl
  have hx := F.1
  have hb := F.2.1
  have hl : lv_has ls 6 [(0, .ref m0), (1, .int i1), (2, .int i2), (3, .int i3)] := hl
  rw [fX6_gainOf] at h0
  refine lv_aload_n hx hb dX6_gainOf_0 rfl (lv_at hl 0 rfl) ?_
  obtain ⟨r1, k2, h9⟩ := ob1 h0
  clear h0
  refine g_vi F (cX6_worthAll_ok l d cy m0 m1 m2 m3 m4 m5 m6 m7 m8 m9 m10 m_now m_tape m_typed m_place m_isFault m_readWet m_readHarvest m_read m_undone m_undos m_bestGain m_aside m_kept m_keptUndos m_isKept m_lanes m_sizes m_items m_moved r1 k2) cal_X6_worthAll t_866 rfl ⟨by decide, by decide⟩ hw (w' := wM cy m0 m1 m2 m3 m4 m5 m6 m7 m8 m9 m10 m_now m_tape m_typed m_place m_isFault m_readWet m_readHarvest m_read m_undone m_undos m_bestGain m_aside m_kept m_keptUndos m_isKept m_lanes m_sizes m_items m_moved) Cut.all 0 6 rfl rfl hl.1 (Nat.le_of_ble_eq_true rfl) rfl dX6_gainOf_1 (fun H locs hw => ?_)
  refine lv_istore (lv' := [(4, .int r1), (0, .ref m0), (1, .int i1), (2, .int i2), (3, .int i3)]) hx hb dX6_gainOf_4 hl (by decide) rfl (fun ls hl => ?_)
  refine lv_aload_n hx hb dX6_gainOf_6 rfl (lv_at hl 1 rfl) ?_
  refine lv_iload_n hx hb dX6_gainOf_7 rfl (lv_at hl 2 rfl) ?_
  refine lv_iload_n hx hb dX6_gainOf_8 rfl (lv_at hl 3 rfl) ?_
  refine lv_iload_n hx hb dX6_gainOf_9 rfl (lv_at hl 4 rfl) ?_
  obtain ⟨f3, k4, h10⟩ := ob1 h9
  clear h9
  refine g_vv F (cX6_goes_ok l d cy m0 m1 m2 m3 m4 m5 m6 m7 m8 m9 m10 m_now m_tape m_typed m_place m_isFault m_readWet m_readHarvest m_read m_undone m_undos m_bestGain m_aside m_kept m_keptUndos m_isKept m_lanes m_sizes m_items m_moved i1 i2 i3 f3 k4) cal_X6_goes t_938 rfl ⟨by decide, by decide⟩ hw (w' := wM cy m0 m1 m2 m3 m4 m5 m6 m7 m8 m9 m10 f3 m_tape m_typed m_place m_isFault m_readWet m_readHarvest m_read m_undone m_undos m_bestGain m_aside m_kept m_keptUndos m_isKept m_lanes m_sizes m_items m_moved) Cut.all 0 6 rfl rfl hl.1 (Nat.le_of_ble_eq_true rfl) rfl dX6_gainOf_10 (fun H locs hw => ?_)
  refine lv_aload_n hx hb dX6_gainOf_13 rfl (lv_at hl 1 rfl) ?_
  obtain ⟨r5, k6, h11⟩ := ob1 h10
  clear h10
  refine g_vi F (cX6_worthAll_ok l d cy m0 m1 m2 m3 m4 m5 m6 m7 m8 m9 m10 f3 m_tape m_typed m_place m_isFault m_readWet m_readHarvest m_read m_undone m_undos m_bestGain m_aside m_kept m_keptUndos m_isKept m_lanes m_sizes m_items m_moved r5 k6) cal_X6_worthAll t_866 rfl ⟨by decide, by decide⟩ hw (w' := wM cy m0 m1 m2 m3 m4 m5 m6 m7 m8 m9 m10 f3 m_tape m_typed m_place m_isFault m_readWet m_readHarvest m_read m_undone m_undos m_bestGain m_aside m_kept m_keptUndos m_isKept m_lanes m_sizes m_items m_moved) Cut.all 0 6 rfl rfl hl.1 (Nat.le_of_ble_eq_true rfl) rfl dX6_gainOf_14 (fun H locs hw => ?_)
  refine lv_iload hx hb dX6_gainOf_17 (lv_at hl 0 rfl) ?_
  refine lv_isub hx hb dX6_gainOf_19 ?_
  refine lv_istore (lv' := [(5, .int (r5 - r1)), (4, .int r1), (0, .ref m0), (1, .int i1), (2, .int i2), (3, .int i3)]) hx hb dX6_gainOf_20 hl (by decide) rfl (fun ls hl => ?_)
  refine lv_aload_n hx hb dX6_gainOf_22 rfl (lv_at hl 2 rfl) ?_
  refine lv_iload_n hx hb dX6_gainOf_23 rfl (lv_at hl 4 rfl) ?_
  refine lv_iload_n hx hb dX6_gainOf_24 rfl (lv_at hl 3 rfl) ?_
  refine lv_iload_n hx hb dX6_gainOf_25 rfl (lv_at hl 5 rfl) ?_
  obtain ⟨f7, k8, h12⟩ := ob1 h11
  clear h11
  refine g_vv F (cX6_goes_ok l d cy m0 m1 m2 m3 m4 m5 m6 m7 m8 m9 m10 f3 m_tape m_typed m_place m_isFault m_readWet m_readHarvest m_read m_undone m_undos m_bestGain m_aside m_kept m_keptUndos m_isKept m_lanes m_sizes m_items m_moved i2 i1 i3 f7 k8) cal_X6_goes t_938 rfl ⟨by decide, by decide⟩ hw (w' := wM cy m0 m1 m2 m3 m4 m5 m6 m7 m8 m9 m10 f7 m_tape m_typed m_place m_isFault m_readWet m_readHarvest m_read m_undone m_undos m_bestGain m_aside m_kept m_keptUndos m_isKept m_lanes m_sizes m_items m_moved) Cut.all 0 6 rfl rfl hl.1 (Nat.le_of_ble_eq_true rfl) rfl dX6_gainOf_26 (fun H locs hw => ?_)
  refine lv_iload hx hb dX6_gainOf_29 (lv_at hl 0 rfl) ?_
  obtain ⟨rfl, rfl⟩ := inj2 h12
  exact hret _ _ _ _ hw dX6_gainOf_31
theorem cal_X6_gain : CalV yX6_gain cX6_gain 4 (some .int) RX6 3 := ⟨t_986, t_984, t_985, t_43, by decide +kernel⟩
set_option maxHeartbeats 4000000 in
set_option maxRecDepth 100000 in
theorem cX6_gain_ok (l : Launch) (d : va_G) (cy : Nat → ClassId) (m0 m1 m2 m3 m4 m5 m6 m7 m8 m9 m10 : Nat) (m_now : Nat → Int32) (m_tape : Nat → Int32) (m_typed : Int32) (m_place : Int32) (m_isFault : Int32) (m_readWet : Int32) (m_readHarvest : Int32) (m_read : Nat → Int32) (m_undone : Nat → Int32) (m_undos : Int32) (m_bestGain : Int32) (m_aside : Nat → Int32) (m_kept : Nat → Int32) (m_keptUndos : Int32) (m_isKept : Int32) (m_lanes : Nat → Int32) (m_sizes : Nat → Int32) (m_items : Nat → Int64) (m_moved : Nat → Int64) (i1 : Int32) (i2 : Int32) (i3 : Int32) (r : Int32) (m_now_r : Nat → Int32) (h0 : fX6_gain m_now i1 i2 i3 = some (r, m_now_r)) : CI l yX6_gain cX6_gain 4 (some .int) 7 163 d cy [.ref m0, .int i1, .int i2, .int i3] (wM cy m0 m1 m2 m3 m4 m5 m6 m7 m8 m9 m10 m_now m_tape m_typed m_place m_isFault m_readWet m_readHarvest m_read m_undone m_undos m_bestGain m_aside m_kept m_keptUndos m_isKept m_lanes m_sizes m_items m_moved) (wM cy m0 m1 m2 m3 m4 m5 m6 m7 m8 m9 m10 m_now_r m_tape m_typed m_place m_isFault m_readWet m_readHarvest m_read m_undone m_undos m_bestGain m_aside m_kept m_keptUndos m_isKept m_lanes m_sizes m_items m_moved) r := by
  refine CI.of (by decide) (Nat.le_of_ble_eq_true rfl) ?_
  intro p e s m args below meth c A ls Q F hret hw hl
  have hx := F.1
  have hb := F.2.1
  have hl : lv_has ls 4 [(0, .ref m0), (1, .int i1), (2, .int i2), (3, .int i3)] := hl
  rw [fX6_gain] at h0
  refine lv_aload_n hx hb dX6_gain_0 rfl (lv_at hl 0 rfl) ?_
  refine lv_iload_n hx hb dX6_gain_1 rfl (lv_at hl 1 rfl) ?_
  refine lv_iload_n hx hb dX6_gain_2 rfl (lv_at hl 2 rfl) ?_
  obtain ⟨r1, k2, h13⟩ := ob1 h0
  clear h0
  refine g_vi F (cX6_areTwo_ok l d cy m0 m1 m2 m3 m4 m5 m6 m7 m8 m9 m10 m_now m_tape m_typed m_place m_isFault m_readWet m_readHarvest m_read m_undone m_undos m_bestGain m_aside m_kept m_keptUndos m_isKept m_lanes m_sizes m_items m_moved i1 i2 r1 k2) cal_X6_areTwo t_922 rfl ⟨by decide, by decide⟩ hw (w' := wM cy m0 m1 m2 m3 m4 m5 m6 m7 m8 m9 m10 m_now m_tape m_typed m_place m_isFault m_readWet m_readHarvest m_read m_undone m_undos m_bestGain m_aside m_kept m_keptUndos m_isKept m_lanes m_sizes m_items m_moved) Cut.all 0 6 rfl rfl hl.1 (Nat.le_of_ble_eq_true rfl) rfl dX6_gain_3 (fun H locs hw => ?_)
  refine lv_if_eq (tgt := 16) hx hb dX6_gain_6 (by decide) (fun c3 => ?_) (fun c3 => ?_)
  · rw [if_pos c3] at h13
    refine lv_iconst (v := (-1)) hx hb dX6_gain_16 (by decide) ?_
    obtain ⟨rfl, rfl⟩ := inj2 h13
    exact hret _ _ _ _ hw dX6_gain_17
  · rw [if_neg c3] at h13
    refine lv_iload_n hx hb dX6_gain_9 rfl (lv_at hl 3 rfl) ?_
    obtain ⟨r4, k5, h14⟩ := ob1 h13
    clear h13
    refine g_si F (cX6_isHalf_ok l d cy i3 r4 k5) cal_X6_isHalf t_854 rfl ⟨by decide, by decide⟩ hw (w' := wM cy m0 m1 m2 m3 m4 m5 m6 m7 m8 m9 m10 m_now m_tape m_typed m_place m_isFault m_readWet m_readHarvest m_read m_undone m_undos m_bestGain m_aside m_kept m_keptUndos m_isKept m_lanes m_sizes m_items m_moved) Cut.nil hl.1 (Nat.le_of_ble_eq_true rfl) rfl dX6_gain_10 (fun H locs hw => ?_)
    refine lv_if_ne (tgt := 18) hx hb dX6_gain_13 (by decide) (fun c6 => ?_) (fun c6 => ?_)
    · rw [if_neg c6] at h14
      refine lv_aload_n hx hb dX6_gain_18 rfl (lv_at hl 0 rfl) ?_
      refine lv_iload_n hx hb dX6_gain_19 rfl (lv_at hl 1 rfl) ?_
      refine lv_iload_n hx hb dX6_gain_20 rfl (lv_at hl 3 rfl) ?_
      obtain ⟨r7, k8, h15⟩ := ob1 h14
      clear h14
      refine g_vi F (cX6_hasOne_ok l d cy m0 m1 m2 m3 m4 m5 m6 m7 m8 m9 m10 m_now m_tape m_typed m_place m_isFault m_readWet m_readHarvest m_read m_undone m_undos m_bestGain m_aside m_kept m_keptUndos m_isKept m_lanes m_sizes m_items m_moved i1 i3 r7 k8) cal_X6_hasOne t_826 rfl ⟨by decide, by decide⟩ hw (w' := wM cy m0 m1 m2 m3 m4 m5 m6 m7 m8 m9 m10 m_now m_tape m_typed m_place m_isFault m_readWet m_readHarvest m_read m_undone m_undos m_bestGain m_aside m_kept m_keptUndos m_isKept m_lanes m_sizes m_items m_moved) Cut.all 0 6 rfl rfl hl.1 (Nat.le_of_ble_eq_true rfl) rfl dX6_gain_21 (fun H locs hw => ?_)
      refine lv_if_eq (tgt := 41) hx hb dX6_gain_24 (by decide) (fun c9 => ?_) (fun c9 => ?_)
      · rw [if_pos c9] at h15
        refine lv_bipush (v := (-2)) hx hb dX6_gain_41 (by decide) ?_
        obtain ⟨rfl, rfl⟩ := inj2 h15
        exact hret _ _ _ _ hw dX6_gain_43
      · rw [if_neg c9] at h15
        refine lv_sipush (v := 1000) hx hb dX6_gain_27 (by decide) ?_
        refine lv_aload_n hx hb dX6_gain_30 rfl (lv_at hl 0 rfl) ?_
        refine lv_iload_n hx hb dX6_gain_31 rfl (lv_at hl 1 rfl) ?_
        refine lv_iload_n hx hb dX6_gain_32 rfl (lv_at hl 2 rfl) ?_
        refine lv_iload_n hx hb dX6_gain_33 rfl (lv_at hl 3 rfl) ?_
        obtain ⟨r10, f11, k12, h16⟩ := ob2 h15
        clear h15
        refine g_vi F (cX6_gainOf_ok l d cy m0 m1 m2 m3 m4 m5 m6 m7 m8 m9 m10 m_now m_tape m_typed m_place m_isFault m_readWet m_readHarvest m_read m_undone m_undos m_bestGain m_aside m_kept m_keptUndos m_isKept m_lanes m_sizes m_items m_moved i1 i2 i3 r10 f11 k12) cal_X6_gainOf t_987 rfl ⟨by decide, by decide⟩ hw (w' := wM cy m0 m1 m2 m3 m4 m5 m6 m7 m8 m9 m10 f11 m_tape m_typed m_place m_isFault m_readWet m_readHarvest m_read m_undone m_undos m_bestGain m_aside m_kept m_keptUndos m_isKept m_lanes m_sizes m_items m_moved) Cut.all 0 6 rfl rfl hl.1 (Nat.le_of_ble_eq_true rfl) rfl dX6_gain_34 (fun H locs hw => ?_)
        refine lv_iadd hx hb dX6_gain_37 ?_
        refine lv_goto (tgt := 43) hx hb dX6_gain_38 (by decide) ?_
        obtain ⟨rfl, rfl⟩ := inj2 h16
        exact hret _ _ _ _ hw dX6_gain_43
    · rw [if_pos c6] at h14
      refine lv_iconst (v := (-1)) hx hb dX6_gain_16 (by decide) ?_
      obtain ⟨rfl, rfl⟩ := inj2 h14
      exact hret _ _ _ _ hw dX6_gain_17
theorem cal_X6_middle : CalV yX6_middle cX6_middle 4 (some .int) RX6 3 := ⟨t_994, t_992, t_993, t_43, by decide +kernel⟩
set_option maxHeartbeats 4000000 in
set_option maxRecDepth 100000 in
theorem cX6_middle_ok (l : Launch) (d : va_G) (cy : Nat → ClassId) (m0 m1 m2 m3 m4 m5 m6 m7 m8 m9 m10 : Nat) (m_now : Nat → Int32) (m_tape : Nat → Int32) (m_typed : Int32) (m_place : Int32) (m_isFault : Int32) (m_readWet : Int32) (m_readHarvest : Int32) (m_read : Nat → Int32) (m_undone : Nat → Int32) (m_undos : Int32) (m_bestGain : Int32) (m_aside : Nat → Int32) (m_kept : Nat → Int32) (m_keptUndos : Int32) (m_isKept : Int32) (m_lanes : Nat → Int32) (m_sizes : Nat → Int32) (m_items : Nat → Int64) (m_moved : Nat → Int64) (i1 : Int32) (i2 : Int32) (i3 : Int32) (r : Int32) (m_now_r : Nat → Int32) (h0 : fX6_middle m_now i1 i2 i3 = some (r, m_now_r)) : CI l yX6_middle cX6_middle 4 (some .int) 6 142 d cy [.ref m0, .int i1, .int i2, .int i3] (wM cy m0 m1 m2 m3 m4 m5 m6 m7 m8 m9 m10 m_now m_tape m_typed m_place m_isFault m_readWet m_readHarvest m_read m_undone m_undos m_bestGain m_aside m_kept m_keptUndos m_isKept m_lanes m_sizes m_items m_moved) (wM cy m0 m1 m2 m3 m4 m5 m6 m7 m8 m9 m10 m_now_r m_tape m_typed m_place m_isFault m_readWet m_readHarvest m_read m_undone m_undos m_bestGain m_aside m_kept m_keptUndos m_isKept m_lanes m_sizes m_items m_moved) r := by
  refine CI.of (by decide) (Nat.le_of_ble_eq_true rfl) ?_
  intro p e s m args below meth c A ls Q F hret hw hl
  have hx := F.1
  have hb := F.2.1
  have hl : lv_has ls 4 [(0, .ref m0), (1, .int i1), (2, .int i2), (3, .int i3)] := hl
  rw [fX6_middle] at h0
  refine lv_aload_n hx hb dX6_middle_0 rfl (lv_at hl 0 rfl) ?_
  refine lv_iload_n hx hb dX6_middle_1 rfl (lv_at hl 1 rfl) ?_
  refine lv_iload_n hx hb dX6_middle_2 rfl (lv_at hl 2 rfl) ?_
  obtain ⟨r1, k2, h13⟩ := ob1 h0
  clear h0
  refine g_vi F (cX6_areTwo_ok l d cy m0 m1 m2 m3 m4 m5 m6 m7 m8 m9 m10 m_now m_tape m_typed m_place m_isFault m_readWet m_readHarvest m_read m_undone m_undos m_bestGain m_aside m_kept m_keptUndos m_isKept m_lanes m_sizes m_items m_moved i1 i2 r1 k2) cal_X6_areTwo t_922 rfl ⟨by decide, by decide⟩ hw (w' := wM cy m0 m1 m2 m3 m4 m5 m6 m7 m8 m9 m10 m_now m_tape m_typed m_place m_isFault m_readWet m_readHarvest m_read m_undone m_undos m_bestGain m_aside m_kept m_keptUndos m_isKept m_lanes m_sizes m_items m_moved) Cut.all 0 6 rfl rfl hl.1 (Nat.le_of_ble_eq_true rfl) rfl dX6_middle_3 (fun H locs hw => ?_)
  refine lv_if_eq (tgt := 16) hx hb dX6_middle_6 (by decide) (fun c3 => ?_) (fun c3 => ?_)
  · rw [if_pos c3] at h13
    refine lv_iconst (v := (-1)) hx hb dX6_middle_16 (by decide) ?_
    obtain ⟨rfl, rfl⟩ := inj2 h13
    exact hret _ _ _ _ hw dX6_middle_17
  · rw [if_neg c3] at h13
    refine lv_iload_n hx hb dX6_middle_9 rfl (lv_at hl 3 rfl) ?_
    obtain ⟨r4, k5, h14⟩ := ob1 h13
    clear h13
    refine g_si F (cX6_isHalf_ok l d cy i3 r4 k5) cal_X6_isHalf t_854 rfl ⟨by decide, by decide⟩ hw (w' := wM cy m0 m1 m2 m3 m4 m5 m6 m7 m8 m9 m10 m_now m_tape m_typed m_place m_isFault m_readWet m_readHarvest m_read m_undone m_undos m_bestGain m_aside m_kept m_keptUndos m_isKept m_lanes m_sizes m_items m_moved) Cut.nil hl.1 (Nat.le_of_ble_eq_true rfl) rfl dX6_middle_10 (fun H locs hw => ?_)
    refine lv_if_ne (tgt := 18) hx hb dX6_middle_13 (by decide) (fun c6 => ?_) (fun c6 => ?_)
    · rw [if_neg c6] at h14
      refine lv_aload_n hx hb dX6_middle_18 rfl (lv_at hl 0 rfl) ?_
      refine lv_iload_n hx hb dX6_middle_19 rfl (lv_at hl 1 rfl) ?_
      refine lv_iload_n hx hb dX6_middle_20 rfl (lv_at hl 3 rfl) ?_
      obtain ⟨r7, k8, h15⟩ := ob1 h14
      clear h14
      refine g_vi F (cX6_hasOne_ok l d cy m0 m1 m2 m3 m4 m5 m6 m7 m8 m9 m10 m_now m_tape m_typed m_place m_isFault m_readWet m_readHarvest m_read m_undone m_undos m_bestGain m_aside m_kept m_keptUndos m_isKept m_lanes m_sizes m_items m_moved i1 i3 r7 k8) cal_X6_hasOne t_826 rfl ⟨by decide, by decide⟩ hw (w' := wM cy m0 m1 m2 m3 m4 m5 m6 m7 m8 m9 m10 m_now m_tape m_typed m_place m_isFault m_readWet m_readHarvest m_read m_undone m_undos m_bestGain m_aside m_kept m_keptUndos m_isKept m_lanes m_sizes m_items m_moved) Cut.all 0 6 rfl rfl hl.1 (Nat.le_of_ble_eq_true rfl) rfl dX6_middle_21 (fun H locs hw => ?_)
      refine lv_if_eq (tgt := 37) hx hb dX6_middle_24 (by decide) (fun c9 => ?_) (fun c9 => ?_)
      · rw [if_pos c9] at h15
        refine lv_bipush (v := (-2)) hx hb dX6_middle_37 (by decide) ?_
        obtain ⟨rfl, rfl⟩ := inj2 h15
        exact hret _ _ _ _ hw dX6_middle_39
      · rw [if_neg c9] at h15
        refine lv_aload_n hx hb dX6_middle_27 rfl (lv_at hl 0 rfl) ?_
        refine lv_iload_n hx hb dX6_middle_28 rfl (lv_at hl 1 rfl) ?_
        refine lv_iload_n hx hb dX6_middle_29 rfl (lv_at hl 2 rfl) ?_
        refine lv_iload_n hx hb dX6_middle_30 rfl (lv_at hl 3 rfl) ?_
        obtain ⟨r10, f11, k12, h16⟩ := ob2 h15
        clear h15
        refine g_vi F (cX6_middleOf_ok l d cy m0 m1 m2 m3 m4 m5 m6 m7 m8 m9 m10 m_now m_tape m_typed m_place m_isFault m_readWet m_readHarvest m_read m_undone m_undos m_bestGain m_aside m_kept m_keptUndos m_isKept m_lanes m_sizes m_items m_moved i1 i2 i3 r10 f11 k12) cal_X6_middleOf t_971 rfl ⟨by decide, by decide⟩ hw (w' := wM cy m0 m1 m2 m3 m4 m5 m6 m7 m8 m9 m10 f11 m_tape m_typed m_place m_isFault m_readWet m_readHarvest m_read m_undone m_undos m_bestGain m_aside m_kept m_keptUndos m_isKept m_lanes m_sizes m_items m_moved) Cut.all 0 6 rfl rfl hl.1 (Nat.le_of_ble_eq_true rfl) rfl dX6_middle_31 (fun H locs hw => ?_)
        refine lv_goto (tgt := 39) hx hb dX6_middle_34 (by decide) ?_
        obtain ⟨rfl, rfl⟩ := inj2 h16
        exact hret _ _ _ _ hw dX6_middle_39
    · rw [if_pos c6] at h14
      refine lv_iconst (v := (-1)) hx hb dX6_middle_16 (by decide) ?_
      obtain ⟨rfl, rfl⟩ := inj2 h14
      exact hret _ _ _ _ hw dX6_middle_17
theorem cal_X6_bestSale : CalV yX6_bestSale cX6_bestSale 6 (some .int) RX6 0 := ⟨t_1002, t_1001, t_31, t_43, by decide +kernel⟩
set_option maxHeartbeats 4000000 in
set_option maxRecDepth 100000 in
theorem cX6_bestSale_ok (l : Launch) (d : va_G) (cy : Nat → ClassId) (m0 m1 m2 m3 m4 m5 m6 m7 m8 m9 m10 : Nat) (m_now : Nat → Int32) (m_tape : Nat → Int32) (m_typed : Int32) (m_place : Int32) (m_isFault : Int32) (m_readWet : Int32) (m_readHarvest : Int32) (m_read : Nat → Int32) (m_undone : Nat → Int32) (m_undos : Int32) (m_bestGain : Int32) (m_aside : Nat → Int32) (m_kept : Nat → Int32) (m_keptUndos : Int32) (m_isKept : Int32) (m_lanes : Nat → Int32) (m_sizes : Nat → Int32) (m_items : Nat → Int64) (m_moved : Nat → Int64) (r : Int32) (m_now_r : Nat → Int32) (m_bestGain_r : Int32) (h0 : fX6_bestSale m_now = some (r, m_now_r, m_bestGain_r)) : CI l yX6_bestSale cX6_bestSale 6 (some .int) 7 163 d cy [.ref m0] (wM cy m0 m1 m2 m3 m4 m5 m6 m7 m8 m9 m10 m_now m_tape m_typed m_place m_isFault m_readWet m_readHarvest m_read m_undone m_undos m_bestGain m_aside m_kept m_keptUndos m_isKept m_lanes m_sizes m_items m_moved) (wM cy m0 m1 m2 m3 m4 m5 m6 m7 m8 m9 m10 m_now_r m_tape m_typed m_place m_isFault m_readWet m_readHarvest m_read m_undone m_undos m_bestGain_r m_aside m_kept m_keptUndos m_isKept m_lanes m_sizes m_items m_moved) r := by
  refine CI.of (by decide) (Nat.le_of_ble_eq_true rfl) ?_
  intro p e s m args below meth c A ls Q F hret hw hl
  have hx := F.1
  have hb := F.2.1
  have hl : lv_has ls 6 [(0, .ref m0)] := hl
  rw [fX6_bestSale] at h0
  refine lv_bipush (v := (-4)) hx hb dX6_bestSale_0 (by decide) ?_
  refine lv_istore_n (lv' := [(1, .int (-4)), (0, .ref m0)]) hx hb dX6_bestSale_2 rfl hl (by decide) rfl (fun ls hl => ?_)
  refine lv_aload_n hx hb dX6_bestSale_3 rfl (lv_at hl 1 rfl) ?_
  refine lv_iconst (v := 0) hx hb dX6_bestSale_4 (by decide) ?_
  refine g_put F inG6 tyX6 tyX6_ok nmX6 hw 0 rfl rfl 10 (by decide) t_740 (fun _ h9 => h9) rfl (ty := .int) (by decide +kernel) rfl rfl (Nat.le_of_ble_eq_true rfl) dX6_bestSale_5 (w' := wM cy m0 m1 m2 m3 m4 m5 m6 m7 m8 m9 m10 m_now m_tape m_typed m_place m_isFault m_readWet m_readHarvest m_read m_undone m_undos 0 m_aside m_kept m_keptUndos m_isKept m_lanes m_sizes m_items m_moved) rfl (fun H locs hw => ?_)
  refine lv_iconst (v := 0) hx hb dX6_bestSale_8 (by decide) ?_
  refine lv_istore_n (lv' := [(2, .int 0), (1, .int (-4)), (0, .ref m0)]) hx hb dX6_bestSale_9 rfl hl (by decide) rfl (fun ls hl => ?_)
  obtain ⟨q616, o617, o618, h921, h922⟩ := ob3 h0
  clear h0
  have kont613 : ∀ (H : Heap) (locs : List Loc) (ls : Array Slot), Wd d A s.heap (wM cy m0 m1 m2 m3 m4 m5 m6 m7 m8 m9 m10 q616 m_tape m_typed m_place m_isFault m_readWet m_readHarvest m_read m_undone m_undos o617 m_aside m_kept m_keptUndos m_isKept m_lanes m_sizes m_items m_moved) H locs → lv_has ls 6 [(1, .int o618)] → W p l e (rmo 7 163) s m args below meth c H locs 0 0 Q (F0 m 138 ls []) := by
    intro H locs ls hw hl
    clear h921
    refine lv_iload_n hx hb dX6_bestSale_138 rfl (lv_at hl 0 rfl) ?_
    obtain ⟨rfl, rfl, rfl⟩ := inj3 h922
    exact hret _ _ _ _ hw dX6_bestSale_139
  clear h922
  have loop615 : ∀ (n : Nat) (v609 : Int32) (v610 : Int32) (v611 : Int32) (g612 : Nat → Int32) (H : Heap) (locs : List Loc) (ls : Array Slot), Wd d A s.heap (wM cy m0 m1 m2 m3 m4 m5 m6 m7 m8 m9 m10 g612 m_tape m_typed m_place m_isFault m_readWet m_readHarvest m_read m_undone m_undos v611 m_aside m_kept m_keptUndos m_isKept m_lanes m_sizes m_items m_moved) H locs → lv_has ls 6 [(0, .ref m0), (1, .int v609), (2, .int v610)] → fX6_bestSale_L10 n v609 v610 v611 g612 = some (q616, o617, o618) → W p l e (rmo 7 163) s m args below meth c H locs 0 0 Q (F0 m 10 ls []) := by
    intro n
    induction n with
    | zero =>
      intro v609 v610 v611 g612 H locs ls hw hl h923
      rw [fX6_bestSale_L10] at h923
      cases h923
    | succ n ih614 =>
      intro v609 v610 v611 g612 H locs ls hw hl h924
      rw [fX6_bestSale_L10] at h924
      refine lv_iload_n hx hb dX6_bestSale_10 rfl (lv_at hl 2 rfl) ?_
      refine lv_aload_n hx hb dX6_bestSale_11 rfl (lv_at hl 0 rfl) ?_
      refine g_get F inG6 hw 0 rfl rfl 0 (by decide) t_730 (fun _ h9 => h9) rfl dX6_bestSale_12 ?_
      refine lv_iconst (v := 0) hx hb dX6_bestSale_15 (by decide) ?_
      obtain ⟨j619, k620, h925⟩ := ob1 h924
      clear h924
      refine g_iald F hw 1 rfl k620 dX6_bestSale_16 ?_
      refine lv_icmp_ge (tgt := 138) hx hb dX6_bestSale_17 (by decide) (fun c621 => ?_) (fun c621 => ?_)
      · rw [if_pos c621] at h925
        obtain ⟨rfl, rfl, rfl⟩ := inj3 h925
        exact kont613 _ _ _ hw (lv_sub hl [1] rfl)
      · rw [if_neg c621] at h925
        refine lv_iconst (v := 0) hx hb dX6_bestSale_20 (by decide) ?_
        refine lv_istore_n (lv' := [(3, .int 0), (0, .ref m0), (1, .int v609), (2, .int v610)]) hx hb dX6_bestSale_21 rfl hl (by decide) rfl (fun ls hl => ?_)
        obtain ⟨q823, o824, o825, h926, h927⟩ := ob3 h925
        clear h925
        have kont820 : ∀ (H : Heap) (locs : List Loc) (ls : Array Slot), Wd d A s.heap (wM cy m0 m1 m2 m3 m4 m5 m6 m7 m8 m9 m10 q823 m_tape m_typed m_place m_isFault m_readWet m_readHarvest m_read m_undone m_undos o824 m_aside m_kept m_keptUndos m_isKept m_lanes m_sizes m_items m_moved) H locs → lv_has ls 6 [(0, .ref m0), (1, .int o825), (2, .int v610)] → W p l e (rmo 7 163) s m args below meth c H locs 0 0 Q (F0 m 132 ls []) := by
          intro H locs ls hw hl
          clear h926
          refine lv_iinc (v := (v610 + 1)) (lv' := [(2, .int (v610 + 1)), (0, .ref m0), (1, .int o825)]) hx hb dX6_bestSale_132 hl (k := 2) rfl rfl (by decide) rfl (fun ls hl => ?_)
          refine lv_goto (tgt := 10) hx hb dX6_bestSale_135 (by decide) ?_
          exact ih614 o825 (v610 + 1) o824 q823 _ _ _ hw (lv_sub hl [1, 2, 0] rfl) h927
        clear h927
        have loop822 : ∀ (n : Nat) (v816 : Int32) (v817 : Int32) (v818 : Int32) (g819 : Nat → Int32) (H : Heap) (locs : List Loc) (ls : Array Slot), Wd d A s.heap (wM cy m0 m1 m2 m3 m4 m5 m6 m7 m8 m9 m10 g819 m_tape m_typed m_place m_isFault m_readWet m_readHarvest m_read m_undone m_undos v818 m_aside m_kept m_keptUndos m_isKept m_lanes m_sizes m_items m_moved) H locs → lv_has ls 6 [(0, .ref m0), (1, .int v816), (2, .int v610), (3, .int v817)] → fX6_bestSale_L22 v610 n v816 v817 v818 g819 = some (q823, o824, o825) → W p l e (rmo 7 163) s m args below meth c H locs 0 0 Q (F0 m 22 ls []) := by
          intro n
          induction n with
          | zero =>
            intro v816 v817 v818 g819 H locs ls hw hl h928
            rw [fX6_bestSale_L22] at h928
            cases h928
          | succ n ih821 =>
            intro v816 v817 v818 g819 H locs ls hw hl h929
            rw [fX6_bestSale_L22] at h929
            refine lv_iload_n hx hb dX6_bestSale_22 rfl (lv_at hl 3 rfl) ?_
            refine lv_aload_n hx hb dX6_bestSale_23 rfl (lv_at hl 0 rfl) ?_
            refine g_get F inG6 hw 0 rfl rfl 0 (by decide) t_730 (fun _ h9 => h9) rfl dX6_bestSale_24 ?_
            refine lv_iconst (v := 0) hx hb dX6_bestSale_27 (by decide) ?_
            obtain ⟨j826, k827, h930⟩ := ob1 h929
            clear h929
            refine g_iald F hw 1 rfl k827 dX6_bestSale_28 ?_
            refine lv_icmp_ge (tgt := 132) hx hb dX6_bestSale_29 (by decide) (fun c828 => ?_) (fun c828 => ?_)
            · rw [if_pos c828] at h930
              obtain ⟨rfl, rfl, rfl⟩ := inj3 h930
              exact kont820 _ _ _ hw (lv_sub hl [0, 1, 2] rfl)
            · rw [if_neg c828] at h930
              refine lv_iconst (v := 0) hx hb dX6_bestSale_32 (by decide) ?_
              refine lv_istore (lv' := [(4, .int 0), (0, .ref m0), (1, .int v816), (2, .int v610), (3, .int v817)]) hx hb dX6_bestSale_33 hl (by decide) rfl (fun ls hl => ?_)
              obtain ⟨q892, o893, o894, h931, h932⟩ := ob3 h930
              clear h930
              have kont889 : ∀ (H : Heap) (locs : List Loc) (ls : Array Slot), Wd d A s.heap (wM cy m0 m1 m2 m3 m4 m5 m6 m7 m8 m9 m10 q892 m_tape m_typed m_place m_isFault m_readWet m_readHarvest m_read m_undone m_undos o893 m_aside m_kept m_keptUndos m_isKept m_lanes m_sizes m_items m_moved) H locs → lv_has ls 6 [(0, .ref m0), (1, .int o894), (2, .int v610), (3, .int v817)] → W p l e (rmo 7 163) s m args below meth c H locs 0 0 Q (F0 m 126 ls []) := by
                intro H locs ls hw hl
                clear h931
                refine lv_iinc (v := (v817 + 1)) (lv' := [(3, .int (v817 + 1)), (0, .ref m0), (1, .int o894), (2, .int v610)]) hx hb dX6_bestSale_126 hl (k := 3) rfl rfl (by decide) rfl (fun ls hl => ?_)
                refine lv_goto (tgt := 22) hx hb dX6_bestSale_129 (by decide) ?_
                exact ih821 o894 (v817 + 1) o893 q892 _ _ _ hw (lv_sub hl [1, 2, 3, 0] rfl) h932
              clear h932
              have loop891 : ∀ (n : Nat) (v885 : Int32) (v886 : Int32) (v887 : Int32) (g888 : Nat → Int32) (H : Heap) (locs : List Loc) (ls : Array Slot), Wd d A s.heap (wM cy m0 m1 m2 m3 m4 m5 m6 m7 m8 m9 m10 g888 m_tape m_typed m_place m_isFault m_readWet m_readHarvest m_read m_undone m_undos v887 m_aside m_kept m_keptUndos m_isKept m_lanes m_sizes m_items m_moved) H locs → lv_has ls 6 [(0, .ref m0), (1, .int v885), (2, .int v610), (3, .int v817), (4, .int v886)] → fX6_bestSale_L35 v610 v817 n v885 v886 v887 g888 = some (q892, o893, o894) → W p l e (rmo 7 163) s m args below meth c H locs 0 0 Q (F0 m 35 ls []) := by
                intro n
                induction n with
                | zero =>
                  intro v885 v886 v887 g888 H locs ls hw hl h933
                  rw [fX6_bestSale_L35] at h933
                  cases h933
                | succ n ih890 =>
                  intro v885 v886 v887 g888 H locs ls hw hl h934
                  rw [fX6_bestSale_L35] at h934
                  refine lv_iload hx hb dX6_bestSale_35 (lv_at hl 4 rfl) ?_
                  refine lv_bipush (v := 12) hx hb dX6_bestSale_37 (by decide) ?_
                  refine lv_icmp_ge (tgt := 126) hx hb dX6_bestSale_39 (by decide) (fun c895 => ?_) (fun c895 => ?_)
                  · rw [if_pos c895] at h934
                    obtain ⟨rfl, rfl, rfl⟩ := inj3 h934
                    exact kont889 _ _ _ hw (lv_sub hl [0, 1, 2, 3] rfl)
                  · rw [if_neg c895] at h934
                    refine lv_iload_n hx hb dX6_bestSale_42 rfl (lv_at hl 2 rfl) ?_
                    refine lv_iload_n hx hb dX6_bestSale_43 rfl (lv_at hl 3 rfl) ?_
                    obtain ⟨f903, x904, h935, h936⟩ := ob2 h934
                    clear h934
                    have kont905 : ∀ (H : Heap) (locs : List Loc) (ls : Array Slot), Wd d A s.heap (wM cy m0 m1 m2 m3 m4 m5 m6 m7 m8 m9 m10 f903 m_tape m_typed m_place m_isFault m_readWet m_readHarvest m_read m_undone m_undos v887 m_aside m_kept m_keptUndos m_isKept m_lanes m_sizes m_items m_moved) H locs → lv_has ls 6 [(0, .ref m0), (1, .int v885), (2, .int v610), (3, .int v817), (4, .int v886)] → W p l e (rmo 7 163) s m args below meth c H locs 0 0 Q (F0 m 69 ls [.int x904]) := by
                      intro H locs ls hw hl
                      clear h935
                      refine lv_istore (lv' := [(5, .int x904), (0, .ref m0), (1, .int v885), (2, .int v610), (3, .int v817), (4, .int v886)]) hx hb dX6_bestSale_69 hl (by decide) rfl (fun ls hl => ?_)
                      refine lv_iload hx hb dX6_bestSale_71 (lv_at hl 0 rfl) ?_
                      refine lv_aload_n hx hb dX6_bestSale_73 rfl (lv_at hl 1 rfl) ?_
                      refine g_get F inG6 hw 0 rfl rfl 10 (by decide) t_740 (fun _ h9 => h9) rfl dX6_bestSale_74 ?_
                      obtain ⟨x914, h937, h938⟩ := ob1 h936
                      clear h936
                      have kont915 : ∀ (H : Heap) (locs : List Loc) (ls : Array Slot), Wd d A s.heap (wM cy m0 m1 m2 m3 m4 m5 m6 m7 m8 m9 m10 f903 m_tape m_typed m_place m_isFault m_readWet m_readHarvest m_read m_undone m_undos v887 m_aside m_kept m_keptUndos m_isKept m_lanes m_sizes m_items m_moved) H locs → lv_has ls 6 [(0, .ref m0), (2, .int v610), (3, .int v817), (4, .int v886), (5, .int x904)] → W p l e (rmo 7 163) s m args below meth c H locs 0 0 Q (F0 m 97 ls [.int x914]) := by
                        intro H locs ls hw hl
                        clear h937
                        refine lv_istore_n (lv' := [(1, .int x914), (0, .ref m0), (2, .int v610), (3, .int v817), (4, .int v886), (5, .int x904)]) hx hb dX6_bestSale_97 rfl hl (by decide) rfl (fun ls hl => ?_)
                        refine lv_aload_n hx hb dX6_bestSale_98 rfl (lv_at hl 1 rfl) ?_
                        refine lv_iload hx hb dX6_bestSale_99 (lv_at hl 5 rfl) ?_
                        refine lv_aload_n hx hb dX6_bestSale_101 rfl (lv_at hl 1 rfl) ?_
                        refine g_get F inG6 hw 0 rfl rfl 10 (by decide) t_740 (fun _ h9 => h9) rfl dX6_bestSale_102 ?_
                        obtain ⟨x918, h939, h940⟩ := ob1 h938
                        clear h938
                        have kont919 : ∀ (H : Heap) (locs : List Loc) (ls : Array Slot), Wd d A s.heap (wM cy m0 m1 m2 m3 m4 m5 m6 m7 m8 m9 m10 f903 m_tape m_typed m_place m_isFault m_readWet m_readHarvest m_read m_undone m_undos v887 m_aside m_kept m_keptUndos m_isKept m_lanes m_sizes m_items m_moved) H locs → lv_has ls 6 [(0, .ref m0), (1, .int x914), (2, .int v610), (3, .int v817), (4, .int v886)] → W p l e (rmo 7 163) s m args below meth c H locs 0 0 Q (F0 m 117 ls [.int x918, .ref m0]) := by
                          intro H locs ls hw hl
                          clear h939
                          refine g_put F inG6 tyX6 tyX6_ok nmX6 hw 0 rfl rfl 10 (by decide) t_740 (fun _ h9 => h9) rfl (ty := .int) (by decide +kernel) rfl rfl (Nat.le_of_ble_eq_true rfl) dX6_bestSale_117 (w' := wM cy m0 m1 m2 m3 m4 m5 m6 m7 m8 m9 m10 f903 m_tape m_typed m_place m_isFault m_readWet m_readHarvest m_read m_undone m_undos x918 m_aside m_kept m_keptUndos m_isKept m_lanes m_sizes m_items m_moved) rfl (fun H locs hw => ?_)
                          refine lv_iinc (v := (v886 + 1)) (lv' := [(4, .int (v886 + 1)), (0, .ref m0), (1, .int x914), (2, .int v610), (3, .int v817)]) hx hb dX6_bestSale_120 hl (k := 4) rfl rfl (by decide) rfl (fun ls hl => ?_)
                          refine lv_goto (tgt := 35) hx hb dX6_bestSale_123 (by decide) ?_
                          exact ih890 x914 (v886 + 1) x918 f903 _ _ _ hw (lv_sub hl [1, 2, 3, 4, 0] rfl) h940
                        clear h940
                        refine lv_icmp_le (tgt := 113) hx hb dX6_bestSale_105 (by decide) (fun c920 => ?_) (fun c920 => ?_)
                        · rw [if_pos c920] at h939
                          refine lv_aload_n hx hb dX6_bestSale_113 rfl (lv_at hl 1 rfl) ?_
                          refine g_get F inG6 hw 0 rfl rfl 10 (by decide) t_740 (fun _ h9 => h9) rfl dX6_bestSale_114 ?_
                          obtain rfl := inj1 h939
                          exact kont919 _ _ _ hw (lv_sub hl [1, 0, 2, 3, 4] rfl)
                        · rw [if_neg c920] at h939
                          refine lv_iload hx hb dX6_bestSale_108 (lv_at hl 5 rfl) ?_
                          refine lv_goto (tgt := 117) hx hb dX6_bestSale_110 (by decide) ?_
                          obtain rfl := inj1 h939
                          exact kont919 _ _ _ hw (lv_sub hl [1, 0, 2, 3, 4] rfl)
                      clear h938
                      refine lv_icmp_le (tgt := 96) hx hb dX6_bestSale_77 (by decide) (fun c916 => ?_) (fun c916 => ?_)
                      · rw [if_pos c916] at h937
                        refine lv_iload_n hx hb dX6_bestSale_96 rfl (lv_at hl 2 rfl) ?_
                        obtain rfl := inj1 h937
                        exact kont915 _ _ _ hw (lv_sub hl [1, 3, 4, 5, 0] rfl)
                      · rw [if_neg c916] at h937
                        refine lv_sipush (v := 1000) hx hb dX6_bestSale_80 (by decide) ?_
                        refine lv_iload_n hx hb dX6_bestSale_83 rfl (lv_at hl 3 rfl) ?_
                        refine lv_imul hx hb dX6_bestSale_84 ?_
                        refine lv_bipush (v := 100) hx hb dX6_bestSale_85 (by decide) ?_
                        refine lv_iload_n hx hb dX6_bestSale_87 rfl (lv_at hl 4 rfl) ?_
                        refine lv_imul hx hb dX6_bestSale_88 ?_
                        refine lv_iadd hx hb dX6_bestSale_89 ?_
                        refine lv_iload hx hb dX6_bestSale_90 (lv_at hl 5 rfl) ?_
                        refine lv_iadd hx hb dX6_bestSale_92 ?_
                        refine lv_goto (tgt := 97) hx hb dX6_bestSale_93 (by decide) ?_
                        obtain rfl := inj1 h937
                        exact kont915 _ _ _ hw (lv_sub hl [1, 3, 4, 5, 0] rfl)
                    clear h936
                    refine lv_icmp_eq (tgt := 68) hx hb dX6_bestSale_44 (by decide) (fun c906 => ?_) (fun c906 => ?_)
                    · rw [if_pos c906] at h935
                      refine lv_iconst (v := 0) hx hb dX6_bestSale_68 (by decide) ?_
                      obtain ⟨rfl, rfl⟩ := inj2 h935
                      exact kont905 _ _ _ hw (lv_sub hl [0, 1, 2, 3, 4] rfl)
                    · rw [if_neg c906] at h935
                      refine lv_aload_n hx hb dX6_bestSale_47 rfl (lv_at hl 0 rfl) ?_
                      refine lv_iload_n hx hb dX6_bestSale_48 rfl (lv_at hl 2 rfl) ?_
                      refine lv_iload hx hb dX6_bestSale_49 (lv_at hl 4 rfl) ?_
                      obtain ⟨r907, k908, h941⟩ := ob1 h935
                      clear h935
                      refine g_vi F (cX6_maySell_ok l d cy m0 m1 m2 m3 m4 m5 m6 m7 m8 m9 m10 g888 m_tape m_typed m_place m_isFault m_readWet m_readHarvest m_read m_undone m_undos v887 m_aside m_kept m_keptUndos m_isKept m_lanes m_sizes m_items m_moved v610 v886 r907 k908) cal_X6_maySell t_927 rfl ⟨by decide, by decide⟩ hw (w' := wM cy m0 m1 m2 m3 m4 m5 m6 m7 m8 m9 m10 g888 m_tape m_typed m_place m_isFault m_readWet m_readHarvest m_read m_undone m_undos v887 m_aside m_kept m_keptUndos m_isKept m_lanes m_sizes m_items m_moved) Cut.all 0 6 rfl rfl hl.1 (Nat.le_of_ble_eq_true rfl) rfl dX6_bestSale_51 (fun H locs hw => ?_)
                      refine lv_if_eq (tgt := 68) hx hb dX6_bestSale_54 (by decide) (fun c909 => ?_) (fun c909 => ?_)
                      · rw [if_pos c909] at h941
                        refine lv_iconst (v := 0) hx hb dX6_bestSale_68 (by decide) ?_
                        obtain ⟨rfl, rfl⟩ := inj2 h941
                        exact kont905 _ _ _ hw (lv_sub hl [0, 1, 2, 3, 4] rfl)
                      · rw [if_neg c909] at h941
                        refine lv_aload_n hx hb dX6_bestSale_57 rfl (lv_at hl 0 rfl) ?_
                        refine lv_iload_n hx hb dX6_bestSale_58 rfl (lv_at hl 2 rfl) ?_
                        refine lv_iload_n hx hb dX6_bestSale_59 rfl (lv_at hl 3 rfl) ?_
                        refine lv_iload hx hb dX6_bestSale_60 (lv_at hl 4 rfl) ?_
                        obtain ⟨r910, f911, k912, h942⟩ := ob2 h941
                        clear h941
                        refine g_vi F (cX6_gainOf_ok l d cy m0 m1 m2 m3 m4 m5 m6 m7 m8 m9 m10 g888 m_tape m_typed m_place m_isFault m_readWet m_readHarvest m_read m_undone m_undos v887 m_aside m_kept m_keptUndos m_isKept m_lanes m_sizes m_items m_moved v610 v817 v886 r910 f911 k912) cal_X6_gainOf t_987 rfl ⟨by decide, by decide⟩ hw (w' := wM cy m0 m1 m2 m3 m4 m5 m6 m7 m8 m9 m10 f911 m_tape m_typed m_place m_isFault m_readWet m_readHarvest m_read m_undone m_undos v887 m_aside m_kept m_keptUndos m_isKept m_lanes m_sizes m_items m_moved) Cut.all 0 6 rfl rfl hl.1 (Nat.le_of_ble_eq_true rfl) rfl dX6_bestSale_62 (fun H locs hw => ?_)
                        refine lv_goto (tgt := 69) hx hb dX6_bestSale_65 (by decide) ?_
                        obtain ⟨rfl, rfl⟩ := inj2 h942
                        exact kont905 _ _ _ hw (lv_sub hl [0, 1, 2, 3, 4] rfl)
              exact loop891 fl v816 0 v818 g819 _ _ _ hw (lv_sub hl [1, 2, 3, 4, 0] rfl) h931
        exact loop822 fl v609 0 v611 g612 _ _ _ hw (lv_sub hl [1, 2, 3, 0] rfl) h926
  exact loop615 fl (-4) 0 0 m_now _ _ _ hw (lv_sub hl [2, 1, 0] rfl) h921
