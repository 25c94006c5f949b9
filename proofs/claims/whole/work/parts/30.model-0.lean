theorem t_3 : (Cond.selects "SundayMarketModel" yX6_personComes yX6_personComes) ∈ gtbl := wd 3 (by decide +kernel) (by decide +kernel)
theorem t_4 : (Cond.selects "SundayMarketModel" yX6_isPerson yX6_isPerson) ∈ gtbl := wd 4 (by decide +kernel) (by decide +kernel)
theorem t_5 : (Cond.selects "SundayMarketModel" yX6_ofPerson yX6_ofPerson) ∈ gtbl := wd 5 (by decide +kernel) (by decide +kernel)
theorem t_6 : (Cond.selects "SundayMarketModel" yX6_halves yX6_halves) ∈ gtbl := wd 6 (by decide +kernel) (by decide +kernel)
theorem t_7 : (Cond.selects "SundayMarketModel" yX6_hasOne yX6_hasOne) ∈ gtbl := wd 7 (by decide +kernel) (by decide +kernel)
theorem t_8 : (Cond.selects "SundayMarketModel" yX6_manyOf yX6_manyOf) ∈ gtbl := wd 8 (by decide +kernel) (by decide +kernel)
theorem t_9 : (Cond.selects "SundayMarketModel" yX6_manyAll yX6_manyAll) ∈ gtbl := wd 9 (by decide +kernel) (by decide +kernel)
theorem t_10 : (Cond.selects "SundayMarketModel" yX6_worth yX6_worth) ∈ gtbl := wd 10 (by decide +kernel) (by decide +kernel)
theorem t_11 : (Cond.selects "SundayMarketModel" yX6_worthOf yX6_worthOf) ∈ gtbl := wd 11 (by decide +kernel) (by decide +kernel)
theorem t_12 : (Cond.selects "SundayMarketModel" yX6_worthIf yX6_worthIf) ∈ gtbl := wd 12 (by decide +kernel) (by decide +kernel)
theorem t_13 : (Cond.selects "SundayMarketModel" yX6_worthAll yX6_worthAll) ∈ gtbl := wd 13 (by decide +kernel) (by decide +kernel)
theorem t_14 : (Cond.selects "SundayMarketModel" yX6_chalkAll yX6_chalkAll) ∈ gtbl := wd 14 (by decide +kernel) (by decide +kernel)
theorem t_15 : (Cond.selects "SundayMarketModel" yX6_readSundays yX6_readSundays) ∈ gtbl := wd 15 (by decide +kernel) (by decide +kernel)
theorem t_16 : (Cond.selects "SundayMarketModel" yX6_here yX6_here) ∈ gtbl := wd 16 (by decide +kernel) (by decide +kernel)
theorem t_17 : (Cond.selects "SundayMarketModel" yX6_must yX6_must) ∈ gtbl := wd 17 (by decide +kernel) (by decide +kernel)
theorem t_18 : (Cond.selects "SundayMarketModel" yX6_readPeople yX6_readPeople) ∈ gtbl := wd 18 (by decide +kernel) (by decide +kernel)
theorem t_19 : (Cond.selects "SundayMarketModel" yX6_number yX6_number) ∈ gtbl := wd 19 (by decide +kernel) (by decide +kernel)
theorem t_20 : (Cond.selects "SundayMarketModel" yX6_letters yX6_letters) ∈ gtbl := wd 20 (by decide +kernel) (by decide +kernel)
theorem t_22 : (Cond.selects "SundayMarketModel" yX6_gets yX6_gets) ∈ gtbl := wd 22 (by decide +kernel) (by decide +kernel)
theorem t_27 : (Cond.selects "SundayMarketModel" yX6_pays yX6_pays) ∈ gtbl := wd 27 (by decide +kernel) (by decide +kernel)
theorem t_43 : (Cond.initialized "SundayMarketModel") ∈ gtbl := wd 43 (by decide +kernel) (by decide +kernel)
theorem t_732 : (Cond.fieldLink "SundayMarketModel" 106 "SundayMarketModel" "typed" "I") ∈ gtbl := wd 732 (by decide +kernel) (by decide +kernel)
theorem t_733 : (Cond.fieldLink "SundayMarketModel" 109 "SundayMarketModel" "place" "I") ∈ gtbl := wd 733 (by decide +kernel) (by decide +kernel)
theorem t_734 : (Cond.fieldLink "SundayMarketModel" 112 "SundayMarketModel" "isFault" "Z") ∈ gtbl := wd 734 (by decide +kernel) (by decide +kernel)
theorem t_735 : (Cond.fieldLink "SundayMarketModel" 123 "SundayMarketModel" "readWet" "I") ∈ gtbl := wd 735 (by decide +kernel) (by decide +kernel)
theorem t_736 : (Cond.fieldLink "SundayMarketModel" 126 "SundayMarketModel" "readHarvest" "I") ∈ gtbl := wd 736 (by decide +kernel) (by decide +kernel)
theorem t_739 : (Cond.fieldLink "SundayMarketModel" 68 "SundayMarketModel" "undos" "I") ∈ gtbl := wd 739 (by decide +kernel) (by decide +kernel)
theorem t_789 : (Cond.instanceMethod yX6_person) ∈ gtbl := wd 789 (by decide +kernel) (by decide +kernel)
theorem t_790 : (Cond.selects "SundayMarketModel" yX6_person yX6_person) ∈ gtbl := wd 790 (by decide +kernel) (by decide +kernel)
theorem t_791 : (Cond.code yX6_person prog_8_method_19_code 2 (some .int)) ∈ gtbl := wd 791 (by decide +kernel) (by decide +kernel)
theorem t_792 : (Cond.constantLong "SundayMarketModel" 72 (4)) ∈ gtbl := wd 792 (by decide +kernel) (by decide +kernel)
theorem t_793 : (Cond.methodLink "SundayMarketModel" 41 yX6_in) ∈ gtbl := wd 793 (by decide +kernel) (by decide +kernel)
theorem t_794 : (Cond.static yX6_in) ∈ gtbl := wd 794 (by decide +kernel) (by decide +kernel)
theorem t_795 : (Cond.code yX6_in prog_8_method_2_code 6 (some .boolean)) ∈ gtbl := wd 795 (by decide +kernel) (by decide +kernel)
theorem t_796 : (Cond.methodLink "SundayMarketModel" 74 yX6_personComes) ∈ gtbl := wd 796 (by decide +kernel) (by decide +kernel)
theorem t_798 : (Cond.instanceMethod yX6_personComes) ∈ gtbl := wd 798 (by decide +kernel) (by decide +kernel)
theorem t_799 : (Cond.code yX6_personComes prog_8_method_18_code 6 none) ∈ gtbl := wd 799 (by decide +kernel) (by decide +kernel)
theorem t_801 : (Cond.instanceMethod yX6_love) ∈ gtbl := wd 801 (by decide +kernel) (by decide +kernel)
theorem t_802 : (Cond.selects "SundayMarketModel" yX6_love yX6_love) ∈ gtbl := wd 802 (by decide +kernel) (by decide +kernel)
theorem t_803 : (Cond.code yX6_love prog_8_method_20_code 4 (some .int)) ∈ gtbl := wd 803 (by decide +kernel) (by decide +kernel)
theorem t_804 : (Cond.methodLink "SundayMarketModel" 78 yX6_isPerson) ∈ gtbl := wd 804 (by decide +kernel) (by decide +kernel)
theorem t_806 : (Cond.instanceMethod yX6_isPerson) ∈ gtbl := wd 806 (by decide +kernel) (by decide +kernel)
theorem t_807 : (Cond.code yX6_isPerson prog_8_method_4_code 2 (some .boolean)) ∈ gtbl := wd 807 (by decide +kernel) (by decide +kernel)
theorem t_808 : (Cond.methodLink "SundayMarketModel" 55 yX6_ofPerson) ∈ gtbl := wd 808 (by decide +kernel) (by decide +kernel)
theorem t_810 : (Cond.instanceMethod yX6_ofPerson) ∈ gtbl := wd 810 (by decide +kernel) (by decide +kernel)
theorem t_811 : (Cond.code yX6_ofPerson prog_8_method_6_code 3 (some .int)) ∈ gtbl := wd 811 (by decide +kernel) (by decide +kernel)
theorem t_813 : (Cond.instanceMethod yX6_least) ∈ gtbl := wd 813 (by decide +kernel) (by decide +kernel)
theorem t_814 : (Cond.selects "SundayMarketModel" yX6_least yX6_least) ∈ gtbl := wd 814 (by decide +kernel) (by decide +kernel)
theorem t_815 : (Cond.code yX6_least prog_8_method_21_code 3 (some .int)) ∈ gtbl := wd 815 (by decide +kernel) (by decide +kernel)
theorem t_816 : (Cond.constantLong "SundayMarketModel" 82 (12)) ∈ gtbl := wd 816 (by decide +kernel) (by decide +kernel)
theorem t_818 : (Cond.instanceMethod yX6_of) ∈ gtbl := wd 818 (by decide +kernel) (by decide +kernel)
theorem t_819 : (Cond.selects "SundayMarketModel" yX6_of yX6_of) ∈ gtbl := wd 819 (by decide +kernel) (by decide +kernel)
theorem t_820 : (Cond.code yX6_of prog_8_method_22_code 3 (some .int)) ∈ gtbl := wd 820 (by decide +kernel) (by decide +kernel)
theorem t_821 : (Cond.constantLong "SundayMarketModel" 84 (5)) ∈ gtbl := wd 821 (by decide +kernel) (by decide +kernel)
theorem t_822 : (Cond.methodLink "SundayMarketModel" 86 yX6_halves) ∈ gtbl := wd 822 (by decide +kernel) (by decide +kernel)
theorem t_824 : (Cond.instanceMethod yX6_halves) ∈ gtbl := wd 824 (by decide +kernel) (by decide +kernel)
theorem t_825 : (Cond.code yX6_halves prog_8_method_15_code 4 (some .int)) ∈ gtbl := wd 825 (by decide +kernel) (by decide +kernel)
theorem t_826 : (Cond.methodLink "SundayMarketModel" 51 yX6_hasOne) ∈ gtbl := wd 826 (by decide +kernel) (by decide +kernel)
theorem t_828 : (Cond.instanceMethod yX6_hasOne) ∈ gtbl := wd 828 (by decide +kernel) (by decide +kernel)
theorem t_829 : (Cond.code yX6_hasOne prog_8_method_8_code 3 (some .boolean)) ∈ gtbl := wd 829 (by decide +kernel) (by decide +kernel)
theorem t_830 : (Cond.methodLink "SundayMarketModel" 47 yX6_manyOf) ∈ gtbl := wd 830 (by decide +kernel) (by decide +kernel)
theorem t_832 : (Cond.instanceMethod yX6_manyOf) ∈ gtbl := wd 832 (by decide +kernel) (by decide +kernel)
theorem t_833 : (Cond.code yX6_manyOf prog_8_method_7_code 3 (some .int)) ∈ gtbl := wd 833 (by decide +kernel) (by decide +kernel)
theorem t_834 : (Cond.methodLink "SundayMarketModel" 89 yX6_manyAll) ∈ gtbl := wd 834 (by decide +kernel) (by decide +kernel)
theorem t_836 : (Cond.instanceMethod yX6_manyAll) ∈ gtbl := wd 836 (by decide +kernel) (by decide +kernel)
theorem t_837 : (Cond.code yX6_manyAll prog_8_method_16_code 4 (some .int)) ∈ gtbl := wd 837 (by decide +kernel) (by decide +kernel)
theorem t_838 : (Cond.methodLink "SundayMarketModel" 64 yX6_worth) ∈ gtbl := wd 838 (by decide +kernel) (by decide +kernel)
theorem t_840 : (Cond.instanceMethod yX6_worth) ∈ gtbl := wd 840 (by decide +kernel) (by decide +kernel)
theorem t_841 : (Cond.code yX6_worth prog_8_method_13_code 4 (some .int)) ∈ gtbl := wd 841 (by decide +kernel) (by decide +kernel)
theorem t_842 : (Cond.methodLink "SundayMarketModel" 61 yX6_worthOf) ∈ gtbl := wd 842 (by decide +kernel) (by decide +kernel)
theorem t_844 : (Cond.instanceMethod yX6_worthOf) ∈ gtbl := wd 844 (by decide +kernel) (by decide +kernel)
theorem t_845 : (Cond.code yX6_worthOf prog_8_method_12_code 3 (some .int)) ∈ gtbl := wd 845 (by decide +kernel) (by decide +kernel)
theorem t_846 : (Cond.methodLink "SundayMarketModel" 58 yX6_worthIf) ∈ gtbl := wd 846 (by decide +kernel) (by decide +kernel)
theorem t_848 : (Cond.instanceMethod yX6_worthIf) ∈ gtbl := wd 848 (by decide +kernel) (by decide +kernel)
theorem t_849 : (Cond.code yX6_worthIf prog_8_method_11_code 8 (some .int)) ∈ gtbl := wd 849 (by decide +kernel) (by decide +kernel)
theorem t_851 : (Cond.instanceMethod yX6_has) ∈ gtbl := wd 851 (by decide +kernel) (by decide +kernel)
theorem t_852 : (Cond.selects "SundayMarketModel" yX6_has yX6_has) ∈ gtbl := wd 852 (by decide +kernel) (by decide +kernel)
theorem t_853 : (Cond.code yX6_has prog_8_method_23_code 4 (some .int)) ∈ gtbl := wd 853 (by decide +kernel) (by decide +kernel)
theorem t_854 : (Cond.methodLink "SundayMarketModel" 92 yX6_isHalf) ∈ gtbl := wd 854 (by decide +kernel) (by decide +kernel)
theorem t_855 : (Cond.static yX6_isHalf) ∈ gtbl := wd 855 (by decide +kernel) (by decide +kernel)
theorem t_856 : (Cond.code yX6_isHalf prog_8_method_5_code 1 (some .boolean)) ∈ gtbl := wd 856 (by decide +kernel) (by decide +kernel)
theorem t_857 : (Cond.constantLong "SundayMarketModel" 45 (11)) ∈ gtbl := wd 857 (by decide +kernel) (by decide +kernel)
theorem t_859 : (Cond.instanceMethod yX6_at) ∈ gtbl := wd 859 (by decide +kernel) (by decide +kernel)
theorem t_860 : (Cond.selects "SundayMarketModel" yX6_at yX6_at) ∈ gtbl := wd 860 (by decide +kernel) (by decide +kernel)
theorem t_861 : (Cond.code yX6_at prog_8_method_24_code 3 (some .int)) ∈ gtbl := wd 861 (by decide +kernel) (by decide +kernel)
theorem t_863 : (Cond.instanceMethod yX6_count) ∈ gtbl := wd 863 (by decide +kernel) (by decide +kernel)
theorem t_864 : (Cond.selects "SundayMarketModel" yX6_count yX6_count) ∈ gtbl := wd 864 (by decide +kernel) (by decide +kernel)
theorem t_865 : (Cond.code yX6_count prog_8_method_26_code 2 (some .int)) ∈ gtbl := wd 865 (by decide +kernel) (by decide +kernel)
theorem t_866 : (Cond.methodLink "SundayMarketModel" 95 yX6_worthAll) ∈ gtbl := wd 866 (by decide +kernel) (by decide +kernel)
theorem t_868 : (Cond.instanceMethod yX6_worthAll) ∈ gtbl := wd 868 (by decide +kernel) (by decide +kernel)
theorem t_869 : (Cond.code yX6_worthAll prog_8_method_14_code 3 (some .int)) ∈ gtbl := wd 869 (by decide +kernel) (by decide +kernel)
theorem t_870 : (Cond.methodLink "SundayMarketModel" 99 yX6_chalkAll) ∈ gtbl := wd 870 (by decide +kernel) (by decide +kernel)
theorem t_872 : (Cond.instanceMethod yX6_chalkAll) ∈ gtbl := wd 872 (by decide +kernel) (by decide +kernel)
theorem t_873 : (Cond.code yX6_chalkAll prog_8_method_25_code 3 (some .int)) ∈ gtbl := wd 873 (by decide +kernel) (by decide +kernel)
theorem t_875 : (Cond.instanceMethod yX6_type) ∈ gtbl := wd 875 (by decide +kernel) (by decide +kernel)
theorem t_876 : (Cond.selects "SundayMarketModel" yX6_type yX6_type) ∈ gtbl := wd 876 (by decide +kernel) (by decide +kernel)
theorem t_877 : (Cond.code yX6_type prog_8_method_27_code 2 (some .int)) ∈ gtbl := wd 877 (by decide +kernel) (by decide +kernel)
theorem t_878 : (Cond.constantLong "SundayMarketModel" 102 (32)) ∈ gtbl := wd 878 (by decide +kernel) (by decide +kernel)
theorem t_879 : (Cond.constantLong "SundayMarketModel" 104 (126)) ∈ gtbl := wd 879 (by decide +kernel) (by decide +kernel)
theorem t_886 : (Cond.instanceMethod yX6_readSundays) ∈ gtbl := wd 886 (by decide +kernel) (by decide +kernel)
theorem t_887 : (Cond.code yX6_readSundays prog_8_method_32_code 3 none) ∈ gtbl := wd 887 (by decide +kernel) (by decide +kernel)
theorem t_888 : (Cond.methodLink "SundayMarketModel" 116 yX6_here) ∈ gtbl := wd 888 (by decide +kernel) (by decide +kernel)
theorem t_890 : (Cond.instanceMethod yX6_here) ∈ gtbl := wd 890 (by decide +kernel) (by decide +kernel)
theorem t_891 : (Cond.code yX6_here prog_8_method_28_code 1 (some .int)) ∈ gtbl := wd 891 (by decide +kernel) (by decide +kernel)
theorem t_892 : (Cond.methodLink "SundayMarketModel" 129 yX6_must) ∈ gtbl := wd 892 (by decide +kernel) (by decide +kernel)
theorem t_894 : (Cond.instanceMethod yX6_must) ∈ gtbl := wd 894 (by decide +kernel) (by decide +kernel)
theorem t_895 : (Cond.code yX6_must prog_8_method_29_code 2 none) ∈ gtbl := wd 895 (by decide +kernel) (by decide +kernel)
theorem t_898 : (Cond.instanceMethod yX6_readPeople) ∈ gtbl := wd 898 (by decide +kernel) (by decide +kernel)
theorem t_899 : (Cond.code yX6_readPeople prog_8_method_33_code 8 (some .int)) ∈ gtbl := wd 899 (by decide +kernel) (by decide +kernel)
theorem t_900 : (Cond.methodLink "SundayMarketModel" 133 yX6_number) ∈ gtbl := wd 900 (by decide +kernel) (by decide +kernel)
theorem t_902 : (Cond.instanceMethod yX6_number) ∈ gtbl := wd 902 (by decide +kernel) (by decide +kernel)
theorem t_903 : (Cond.code yX6_number prog_8_method_30_code 4 (some .int)) ∈ gtbl := wd 903 (by decide +kernel) (by decide +kernel)
theorem t_904 : (Cond.constantLong "SundayMarketModel" 119 (48)) ∈ gtbl := wd 904 (by decide +kernel) (by decide +kernel)
theorem t_905 : (Cond.constantLong "SundayMarketModel" 121 (57)) ∈ gtbl := wd 905 (by decide +kernel) (by decide +kernel)
theorem t_906 : (Cond.methodLink "SundayMarketModel" 136 yX6_letters) ∈ gtbl := wd 906 (by decide +kernel) (by decide +kernel)
theorem t_908 : (Cond.instanceMethod yX6_letters) ∈ gtbl := wd 908 (by decide +kernel) (by decide +kernel)
theorem t_909 : (Cond.code yX6_letters prog_8_method_31_code 4 (some .int)) ∈ gtbl := wd 909 (by decide +kernel) (by decide +kernel)
theorem t_916 : (Cond.instanceMethod yX6_gets) ∈ gtbl := wd 916 (by decide +kernel) (by decide +kernel)
theorem t_917 : (Cond.code yX6_gets prog_8_method_9_code 4 none) ∈ gtbl := wd 917 (by decide +kernel) (by decide +kernel)
theorem t_932 : (Cond.static yX6_many) ∈ gtbl := wd 932 (by decide +kernel) (by decide +kernel)
theorem t_933 : (Cond.code yX6_many prog_8_method_17_code 3 (some .int)) ∈ gtbl := wd 933 (by decide +kernel) (by decide +kernel)
theorem t_944 : (Cond.instanceMethod yX6_pays) ∈ gtbl := wd 944 (by decide +kernel) (by decide +kernel)
theorem t_945 : (Cond.code yX6_pays prog_8_method_10_code 3 none) ∈ gtbl := wd 945 (by decide +kernel) (by decide +kernel)
def fX6_in (i0 : Int64) (i2 : Int64) (i4 : Int64) : Option (Int32) :=
  if (lg_cmp i0 i2) < 0 then
    some (0)
  else
    if 0 < (lg_cmp i0 i4) then
      some (0)
    else
      some (1)
def fX6_isPerson (m_now : Nat → Int32) (i1 : Int32) : Option (Int32) :=
  bd1 (ix 0 95) fun j1 =>
  bd1 (fX6_in (Int32.toInt64 i1) 0 (Int32.toInt64 ((m_now j1) - 1))) fun r3 =>
  bd0 (isb r3) <|
  some (r3)
def fX6_isHalf (i0 : Int32) : Option (Int32) :=
  bd1 (fX6_in (Int32.toInt64 i0) 0 11) fun r1 =>
  bd0 (isb r1) <|
  some (r1)
def fX6_ofPerson (m_now : Nat → Int32) (i1 : Int32) (i2 : Int32) : Option (Int32) :=
  bd1 (ix ((5 + (3 * i1)) + i2) 95) fun j1 =>
  some ((m_now j1))
def fX6_manyOf (m_now : Nat → Int32) (i1 : Int32) (i2 : Int32) : Option (Int32) :=
  bd1 (ix ((23 + (12 * i1)) + i2) 95) fun j1 =>
  some ((m_now j1))
def fX6_hasOne (m_now : Nat → Int32) (i1 : Int32) (i2 : Int32) : Option (Int32) :=
  bd1 (fX6_manyOf m_now i1 i2) fun r1 =>
  if r1 ≤ 0 then
    some (0)
  else
    some (1)
def fX6_gets (m_now : Nat → Int32) (i1 : Int32) (i2 : Int32) (i3 : Int32) : Option ((Nat → Int32)) :=
  bd1 (ix ((23 + (12 * i1)) + i2) 95) fun j1 =>
  some ((upd m_now j1 ((m_now j1) + i3)))
def fX6_pays (m_now : Nat → Int32) (i1 : Int32) (i2 : Int32) : Option ((Nat → Int32)) :=
  bd1 (ix ((5 + (3 * i1)) + 2) 95) fun j1 =>
  some ((upd m_now j1 ((m_now j1) - i2)))
def fX6_worthIf (m_now : Nat → Int32) (i1 : Int32) (i2 : Int32) : Option (Int32) :=
  bd1 (ix 2 95) fun j1 =>
  bd1 (if (((m_now j1) >>> ((i2 / 2) &&& 31)) &&& 1) = 1 then
      some (3)
    else
      some (6)
    : Option Int32) fun x4 =>
  bd1 (ix 3 95) fun j7 =>
  bd1 (if (((m_now j7) >>> ((i2 / 2) &&& 31)) &&& 1) = 1 then
      some (9)
    else
      some (0)
    : Option Int32) fun x10 =>
  bd1 (fX6_hasOne m_now i1 (i2 ^^^ 1)) fun r13 =>
  bd1 (if r13 = 0 then
      some (0)
    else
      some (4)
    : Option Int32) fun x16 =>
  bd1 (fX6_ofPerson m_now i1 1) fun r19 =>
  bd1 (fX6_ofPerson m_now i1 0) fun r21 =>
  if r21 = 0 then
    some (x4)
  else if r21 = 1 then
    some ((x4 + x10))
  else if r21 = 2 then
    some ((x4 + x16))
  else if r21 = 3 then
    if r19 = i1 then
      some (((x4 + x10) + 0))
    else
      bd1 (fX6_hasOne m_now r19 i2) fun r24 =>
      if r24 = 0 then
        some (((x4 + x10) + 0))
      else
        some (((x4 + x10) + 5))
  else 
    if (i2 - i2 / 2 * 2) = 0 then
      some (0)
    else
      some ((x4 + x16))
def fX6_worthOf (m_now : Nat → Int32) (i1 : Int32) (i2 : Int32) : Option (Int32) :=
  bd1 (fX6_hasOne m_now i1 i2) fun r1 =>
  if r1 = 0 then
    some (0)
  else
    bd1 (fX6_worthIf m_now i1 i2) fun r4 =>
    some (r4)
def fX6_worth_L4 (i1 : Int32) (m_now : Nat → Int32) : Nat → Int32 → Int32 → Option (Int32)
  | 0, _, _ => none
  | n + 1, v9, v10 =>
    if 12 ≤ v10 then
      some (v9)
    else
      bd1 (fX6_worthOf m_now i1 v10) fun r16 =>
      fX6_worth_L4 i1 m_now n (v9 + r16) (v10 + 1)
def fX6_worth (m_now : Nat → Int32) (i1 : Int32) : Option (Int32) :=
  bd1 (fX6_worth_L4 i1 m_now fl 0 0) fun o14 =>
  some (o14)
def fX6_worthAll_L4 (m_now : Nat → Int32) : Nat → Int32 → Int32 → Option (Int32)
  | 0, _, _ => none
  | n + 1, v13, v14 =>
    bd1 (ix 0 95) fun j19 =>
    if (m_now j19) ≤ v14 then
      some (v13)
    else
      bd1 (fX6_worth m_now v14) fun r22 =>
      fX6_worthAll_L4 m_now n (v13 + r22) (v14 + 1)
def fX6_worthAll (m_now : Nat → Int32) : Option (Int32) :=
  bd1 (fX6_worthAll_L4 m_now fl 0 0) fun o18 =>
  some (o18)
def fX6_halves_L4 (i1 : Int32) (m_now : Nat → Int32) : Nat → Int32 → Int32 → Option (Int32)
  | 0, _, _ => none
  | n + 1, v17, v18 =>
    if 12 ≤ v18 then
      some (v17)
    else
      bd1 (fX6_hasOne m_now i1 v18) fun r24 =>
      bd1 (if r24 = 0 then
          some (0)
        else
          some (((1 : Int32) <<< (v18 &&& 31)))
        : Option Int32) fun x27 =>
      fX6_halves_L4 i1 m_now n (v17 ||| x27) (v18 + 1)
def fX6_halves (m_now : Nat → Int32) (i1 : Int32) : Option (Int32) :=
  bd1 (fX6_halves_L4 i1 m_now fl 0 0) fun o22 =>
  some (o22)
def fX6_manyAll_L4 (i1 : Int32) (m_now : Nat → Int32) : Nat → Int32 → Int32 → Option (Int32)
  | 0, _, _ => none
  | n + 1, v9, v10 =>
    if 12 ≤ v10 then
      some (v9)
    else
      bd1 (fX6_manyOf m_now i1 v10) fun r16 =>
      fX6_manyAll_L4 i1 m_now n (v9 + r16) (v10 + 1)
def fX6_manyAll (m_now : Nat → Int32) (i1 : Int32) : Option (Int32) :=
  bd1 (fX6_manyAll_L4 i1 m_now fl 0 0) fun o14 =>
  some (o14)
def fX6_many_L4  : Nat → Int32 → Int32 → Option (Int32)
  | 0, _, _ => none
  | n + 1, v5, v6 =>
    if v6 = 0 then
      some (v5)
    else
      fX6_many_L4 n (v5 + 1) (v6 &&& (v6 - 1))
def fX6_many (i0 : Int32) : Option (Int32) :=
  bd1 (fX6_many_L4 fl 0 i0) fun o10 =>
  some (o10)
def fX6_personComes_L43  : Nat → Int32 → (Nat → Int32) → Option ((Nat → Int32))
  | 0, _, _ => none
  | n + 1, v21, g22 =>
    if 12 ≤ v21 then
      some (g22)
    else
      bd1 (ix 0 95) fun j28 =>
      bd1 (ix ((23 + (12 * (g22 j28))) + v21) 95) fun j30 =>
      fX6_personComes_L43 n (v21 + 1) (upd g22 j30 1)
def fX6_personComes (m_now : Nat → Int32) (i1 : Int32) (i2 : Int32) (i3 : Int32) : Option ((Nat → Int32) × Int32) :=
  bd1 (ix 0 95) fun j1 =>
  bd1 (ix (5 + (3 * (m_now j1))) 95) fun j3 =>
  bd1 (ix ((5 + (3 * (m_now j1))) + 1) 95) fun j5 =>
  bd1 (ix ((5 + (3 * (m_now j1))) + 2) 95) fun j7 =>
  bd1 (fX6_personComes_L43 fl 0 (upd (upd (upd m_now j3 i1) j5 i2) j7 i3)) fun q26 =>
  some ((upd q26 j1 ((q26 j1) + 1)), 0)
def fX6_person (m_now : Nat → Int32) (m_undos : Int32) (i1 : Int32) : Option (Int32 × (Nat → Int32) × Int32) :=
  bd1 (fX6_in (Int32.toInt64 i1) 0 4) fun r1 =>
  if r1 = 0 then
    some ((-1), m_now, m_undos)
  else
    bd1 (ix 0 95) fun j4 =>
    if (m_now j4) = 6 then
      some ((-3), m_now, m_undos)
    else
      bd2 (fX6_personComes m_now i1 (m_now j4) 50) fun f7 x8 =>
      some (((f7 j4) - 1), f7, x8)
def fX6_love (m_now : Nat → Int32) (i1 : Int32) (i2 : Int32) : Option (Int32 × (Nat → Int32)) :=
  bd1 (fX6_isPerson m_now i1) fun r1 =>
  if r1 = 0 then
    some ((-1), m_now)
  else
    bd1 (fX6_isPerson m_now i2) fun r4 =>
    if r4 = 0 then
      some ((-1), m_now)
    else
      bd1 (fX6_ofPerson m_now i1 1) fun r7 =>
      bd1 (ix ((5 + (3 * i1)) + 1) 95) fun j9 =>
      some (r7, (upd m_now j9 i2))
def fX6_least (m_now : Nat → Int32) (i1 : Int32) : Option (Int32 × (Nat → Int32)) :=
  bd1 (fX6_in (Int32.toInt64 i1) 0 12) fun r1 =>
  if r1 = 0 then
    some ((-1), m_now)
  else
    bd1 (ix 1 95) fun j4 =>
    some ((m_now j4), (upd m_now j4 i1))
def fX6_of (m_now : Nat → Int32) (i1 : Int32) (i2 : Int32) : Option (Int32) :=
  bd1 (fX6_isPerson m_now i1) fun r1 =>
  if r1 = 0 then
    some ((-1))
  else
    bd1 (fX6_in (Int32.toInt64 i2) 0 5) fun r4 =>
    if r4 = 0 then
      some ((-1))
    else
      if 3 ≤ i2 then
        if i2 = 3 then
          bd1 (fX6_halves m_now i1) fun r14 =>
          some (r14)
        else
          if i2 = 4 then
            bd1 (fX6_manyAll m_now i1) fun r12 =>
            some (r12)
          else
            bd1 (fX6_worth m_now i1) fun r10 =>
            some (r10)
      else
        bd1 (fX6_ofPerson m_now i1 i2) fun r16 =>
        some (r16)
def fX6_has (m_now : Nat → Int32) (i1 : Int32) (i2 : Int32) (i3 : Int32) : Option (Int32) :=
  bd1 (fX6_isPerson m_now i1) fun r1 =>
  if r1 = 0 then
    some ((-1))
  else
    bd1 (fX6_isHalf i2) fun r4 =>
    if r4 = 0 then
      some ((-1))
    else
      bd1 (fX6_in (Int32.toInt64 i3) 0 1) fun r7 =>
      if r7 = 0 then
        some ((-1))
      else
        if i3 = 0 then
          bd1 (fX6_manyOf m_now i1 i2) fun r13 =>
          some (r13)
        else
          bd1 (fX6_worthOf m_now i1 i2) fun r11 =>
          some (r11)
def fX6_at (m_now : Nat → Int32) (i1 : Int32) (i2 : Int32) : Option (Int32) :=
  bd1 (fX6_in (Int32.toInt64 i1) 0 5) fun r1 =>
  if r1 = 0 then
    some ((-1))
  else
    bd1 (fX6_in (Int32.toInt64 i2) 0 1) fun r4 =>
    if r4 = 0 then
      some ((-1))
    else
      bd1 (ix (2 + i2) 95) fun j7 =>
      some ((((m_now j7) >>> (i1 &&& 31)) &&& 1))
def fX6_chalkAll_L4 (m_now : Nat → Int32) : Nat → Int32 → Int32 → Option (Int32)
  | 0, _, _ => none
  | n + 1, v13, v14 =>
    bd1 (ix 0 95) fun j19 =>
    if (m_now j19) ≤ v14 then
      some (v13)
    else
      bd1 (fX6_ofPerson m_now v14 2) fun r22 =>
      fX6_chalkAll_L4 m_now n (v13 + r22) (v14 + 1)
def fX6_chalkAll (m_now : Nat → Int32) : Option (Int32) :=
  bd1 (fX6_chalkAll_L4 m_now fl 0 0) fun o18 =>
  some (o18)
def fX6_count (m_now : Nat → Int32) (m_undos : Int32) (i1 : Int32) : Option (Int32) :=
  if i1 = 0 then
    bd1 (ix i1 95) fun j1 =>
    some ((m_now j1))
  else if i1 = 1 then
    bd1 (ix i1 95) fun j3 =>
    some ((m_now j3))
  else if i1 = 2 then
    bd1 (ix i1 95) fun j5 =>
    some ((m_now j5))
  else if i1 = 3 then
    bd1 (ix i1 95) fun j7 =>
    some ((m_now j7))
  else if i1 = 4 then
    bd1 (fX6_worthAll m_now) fun r9 =>
    some (r9)
  else if i1 = 5 then
    bd1 (fX6_chalkAll m_now) fun r11 =>
    some (r11)
  else if i1 = 6 then
    some (m_undos)
  else 
    some ((-1))
def fX6_type (m_tape : Nat → Int32) (m_typed : Int32) (i1 : Int32) : Option (Int32 × (Nat → Int32) × Int32) :=
  bd1 (fX6_in (Int32.toInt64 i1) 32 126) fun r1 =>
  if r1 = 0 then
    some ((-1), m_tape, m_typed)
  else
    if m_typed = 100 then
      some ((-3), m_tape, m_typed)
    else
      bd1 (ix m_typed 100) fun j5 =>
      some ((m_typed + 1), (upd m_tape j5 i1), (m_typed + 1))
def fX6_here_L0 (m_tape : Nat → Int32) (m_typed : Int32) : Nat → Int32 → Option (Int32)
  | 0, _ => none
  | n + 1, v10 =>
    if m_typed ≤ v10 then
      some (v10)
    else
      bd1 (ix v10 100) fun j16 =>
      if (m_tape j16) = 32 then
        fX6_here_L0 m_tape m_typed n (v10 + 1)
      else
        some (v10)
def fX6_here (m_tape : Nat → Int32) (m_typed : Int32) (m_place : Int32) : Option (Int32 × Int32) :=
  bd1 (fX6_here_L0 m_tape m_typed fl m_place) fun o14 =>
  if m_typed ≤ o14 then
    some (0, o14)
  else
    bd1 (ix o14 100) fun j20 =>
    some ((m_tape j20), o14)
def fX6_must (m_place : Int32) (m_isFault : Int32) (i1 : Int32) : Option (Int32 × Int32) :=
  bd1 (if m_isFault = 0 then
      if i1 = 0 then
        some (1)
      else
        some (0)
    else
      some (1)
    : Option Int32) fun x3 =>
  bd0 (isb x3) <|
  bd1 (if x3 = 0 then
      some (1)
    else
      some (0)
    : Option Int32) fun x9 =>
  some ((m_place + x9), x3)
def fX6_number_L53 (m_tape : Nat → Int32) (m_typed : Int32) (x5 : Int32) (x16 : Int32) : Nat → Int32 → Int32 → Option (Int32 × Int32)
  | 0, _, _ => none
  | n + 1, v41, v42 =>
    if x16 = 0 then
      if m_typed ≤ v42 then
        some (v42, v41)
      else
        if 2 ≤ (v42 - x5) then
          some (v42, v41)
        else
          bd1 (ix v42 100) fun j51 =>
          bd1 (fX6_in (Int32.toInt64 (m_tape j51)) 48 57) fun r53 =>
          if r53 = 0 then
            some (v42, v41)
          else
            fX6_number_L53 m_tape m_typed x5 x16 n (((10 * v41) + (m_tape j51)) - 48) (v42 + 1)
    else
      some (v42, v41)
def fX6_number (m_tape : Nat → Int32) (m_typed : Int32) (m_place : Int32) (m_isFault : Int32) : Option (Int32 × Int32 × Int32) :=
  bd2 (if m_isFault = 0 then
      bd2 (fX6_here m_tape m_typed m_place) fun r9 x10 =>
      some (x10, r9)
    else
      some (m_place, 0)
    : Option (Int32 × Int32)) fun x5 x6 =>
  bd1 (if m_isFault = 0 then
      bd1 (fX6_in (Int32.toInt64 x6) 48 57) fun r19 =>
      if r19 = 0 then
        some (1)
      else
        some (0)
    else
      some (1)
    : Option Int32) fun x16 =>
  bd0 (isb x16) <|
  bd2 (fX6_number_L53 m_tape m_typed x5 x16 fl 0 x5) fun o46 o47 =>
  some (o47, o46, x16)
def fX6_letters_L53 (m_tape : Nat → Int32) (m_typed : Int32) (x12 : Int32) : Nat → Int32 → Int32 → Int32 → Option (Int32 × Int32)
  | 0, _, _, _ => none
  | n + 1, v35, v36, v37 =>
    if x12 = 0 then
      bd1 (fX6_isHalf v36) fun r44 =>
      if r44 = 0 then
        some (v37, v35)
      else
        if ((1 : Int32) <<< (v36 &&& 31)) ≤ v35 then
          some (v37, v35)
        else
          bd2 (fX6_here m_tape m_typed (v37 + 1)) fun r48 x49 =>
          fX6_letters_L53 m_tape m_typed x12 n (v35 ||| ((1 : Int32) <<< (v36 &&& 31))) (r48 - 97) x49
    else
      some (v37, v35)
def fX6_letters (m_tape : Nat → Int32) (m_typed : Int32) (m_place : Int32) (m_isFault : Int32) (i1 : Int32) : Option (Int32 × Int32 × Int32) :=
  if m_isFault = 0 then
    bd2 (fX6_here m_tape m_typed m_place) fun r2 x3 =>
    if r2 = i1 then
      bd2 (fX6_here m_tape m_typed (x3 + 1)) fun r6 x7 =>
      bd1 (fX6_isHalf (r6 - 97)) fun r9 =>
      bd1 (if r9 = 0 then
          some (1)
        else
          some (0)
        : Option Int32) fun x12 =>
      bd0 (isb x12) <|
      bd2 (fX6_letters_L53 m_tape m_typed x12 fl 0 (r6 - 97) x7) fun o41 o42 =>
      some (o42, o41, x12)
    else
      some (0, x3, m_isFault)
  else
    some (0, m_place, m_isFault)
def fX6_readSundays_L12 (m_tape : Nat → Int32) (m_typed : Int32) : Nat → Int32 → Int32 → Int32 → Int32 → Int32 → Option (Int32 × Int32 × Int32 × Int32)
  | 0, _, _, _, _, _ => none
  | n + 1, v80, v81, v82, v83, v84 =>
    if 6 ≤ v80 then
      some (v82, v81, v84, v83)
    else
      bd2 (if v81 = 0 then
          bd2 (fX6_here m_tape m_typed v82) fun r101 x102 =>
          some (x102, r101)
        else
          some (v82, 0)
        : Option (Int32 × Int32)) fun x97 x98 =>
      bd1 (if x98 = 46 then
          some (1)
        else
          if x98 = 119 then
            some (1)
          else
            if x98 = 104 then
              some (1)
            else
              if x98 = 98 then
                some (1)
              else
                some (0)
        : Option Int32) fun x108 =>
      bd2 (fX6_must x97 v81 x108) fun x114 x115 =>
      bd1 (if x98 = 119 then
          some (((1 : Int32) <<< (v80 &&& 31)))
        else
          if x98 = 98 then
            some (((1 : Int32) <<< (v80 &&& 31)))
          else
            some (0)
        : Option Int32) fun x119 =>
      bd1 (if x98 = 104 then
          some (((1 : Int32) <<< (v80 &&& 31)))
        else
          if x98 = 98 then
            some (((1 : Int32) <<< (v80 &&& 31)))
          else
            some (0)
        : Option Int32) fun x125 =>
      fX6_readSundays_L12 m_tape m_typed n (v80 + 1) x115 x114 (v83 ||| x125) (v84 ||| x119)
def fX6_readSundays (m_tape : Nat → Int32) (m_typed : Int32) (m_place : Int32) (m_isFault : Int32) : Option (Int32 × Int32 × Int32 × Int32) :=
  bd4 (fX6_readSundays_L12 m_tape m_typed fl 0 m_isFault m_place 0 0) fun o88 o89 o90 o91 =>
  some (o88, o89, o90, o91)
def fX6_readPeople_L2 (m_tape : Nat → Int32) (m_typed : Int32) : Nat → Int32 → Int32 → Int32 → (Nat → Int32) → Option (Int32 × Int32 × (Nat → Int32) × Int32)
  | 0, _, _, _, _ => none
  | n + 1, v477, v478, v479, g480 =>
    if v478 = 0 then
      if v477 = 0 then
        bd2 (if v477 ≤ 0 then
            some (v479, v478)
          else
            bd1 (if 6 ≤ v477 then
                some (0)
              else
                some (1)
              : Option Int32) fun x503 =>
            bd2 (fX6_must v479 v478 x503) fun x506 x507 =>
            some (x506, x507)
          : Option (Int32 × Int32)) fun x498 x499 =>
        bd2 (if x499 = 0 then
            bd2 (fX6_here m_tape m_typed x498) fun r517 x518 =>
            some (x518, r517)
          else
            some (x498, 0)
          : Option (Int32 × Int32)) fun x513 x514 =>
        bd1 (if x514 = 112 then
            some (0)
          else
            if x514 = 102 then
              some (1)
            else
              if x514 = 111 then
                some (2)
              else
                if x514 = 108 then
                  some (3)
                else
                  if x514 = 114 then
                    some (4)
                  else
                    some ((-1))
          : Option Int32) fun x525 =>
        bd1 (if x525 < 0 then
            some (0)
          else
            some (1)
          : Option Int32) fun x533 =>
        bd2 (fX6_must x513 x499 x533) fun x536 x537 =>
        bd3 (fX6_number m_tape m_typed x536 x537) fun r539 x540 x541 =>
        bd3 (if x541 = 0 then
            bd2 (fX6_here m_tape m_typed x540) fun r561 x562 =>
            if r561 = 62 then
              bd2 (fX6_here m_tape m_typed (x562 + 1)) fun r565 x566 =>
              bd1 (fX6_in (Int32.toInt64 (r565 - 48)) 0 5) fun r568 =>
              bd2 (fX6_must x566 x541 r568) fun x570 x571 =>
              some (x570, x571, (r565 - 48))
            else
              some (x562, x541, v477)
          else
            some (x540, x541, v477)
          : Option (Int32 × Int32 × Int32)) fun x556 x557 x558 =>
        bd3 (fX6_letters m_tape m_typed x556 x557 45) fun r573 x574 x575 =>
        bd3 (fX6_letters m_tape m_typed x574 x575 43) fun r577 x578 x579 =>
        bd1 (if x579 = 0 then
            bd1 (ix (5 * v477) 30) fun j595 =>
            bd1 (ix ((5 * v477) + 1) 30) fun j597 =>
            bd1 (ix ((5 * v477) + 2) 30) fun j599 =>
            bd1 (ix ((5 * v477) + 3) 30) fun j601 =>
            bd1 (ix ((5 * v477) + 4) 30) fun j603 =>
            some ((upd (upd (upd (upd (upd g480 j595 x525) j597 x558) j599 r539) j601 r573) j603 r577))
          else
            some (g480)
          : Option ((Nat → Int32))) fun f592 =>
        fX6_readPeople_L2 m_tape m_typed n (v477 + 1) x579 x578 f592
      else
        bd2 (fX6_here m_tape m_typed v479) fun r605 x606 =>
        if r605 = 44 then
          bd2 (if v477 ≤ 0 then
              some (x606, v478)
            else
              bd1 (if 6 ≤ v477 then
                  some (0)
                else
                  some (1)
                : Option Int32) fun x622 =>
              bd2 (fX6_must x606 v478 x622) fun x625 x626 =>
              some (x625, x626)
            : Option (Int32 × Int32)) fun x617 x618 =>
          bd2 (if x618 = 0 then
              bd2 (fX6_here m_tape m_typed x617) fun r636 x637 =>
              some (x637, r636)
            else
              some (x617, 0)
            : Option (Int32 × Int32)) fun x632 x633 =>
          bd1 (if x633 = 112 then
              some (0)
            else
              if x633 = 102 then
                some (1)
              else
                if x633 = 111 then
                  some (2)
                else
                  if x633 = 108 then
                    some (3)
                  else
                    if x633 = 114 then
                      some (4)
                    else
                      some ((-1))
            : Option Int32) fun x644 =>
          bd1 (if x644 < 0 then
              some (0)
            else
              some (1)
            : Option Int32) fun x652 =>
          bd2 (fX6_must x632 x618 x652) fun x655 x656 =>
          bd3 (fX6_number m_tape m_typed x655 x656) fun r658 x659 x660 =>
          bd3 (if x660 = 0 then
              bd2 (fX6_here m_tape m_typed x659) fun r680 x681 =>
              if r680 = 62 then
                bd2 (fX6_here m_tape m_typed (x681 + 1)) fun r684 x685 =>
                bd1 (fX6_in (Int32.toInt64 (r684 - 48)) 0 5) fun r687 =>
                bd2 (fX6_must x685 x660 r687) fun x689 x690 =>
                some (x689, x690, (r684 - 48))
              else
                some (x681, x660, v477)
            else
              some (x659, x660, v477)
            : Option (Int32 × Int32 × Int32)) fun x675 x676 x677 =>
          bd3 (fX6_letters m_tape m_typed x675 x676 45) fun r692 x693 x694 =>
          bd3 (fX6_letters m_tape m_typed x693 x694 43) fun r696 x697 x698 =>
          bd1 (if x698 = 0 then
              bd1 (ix (5 * v477) 30) fun j714 =>
              bd1 (ix ((5 * v477) + 1) 30) fun j716 =>
              bd1 (ix ((5 * v477) + 2) 30) fun j718 =>
              bd1 (ix ((5 * v477) + 3) 30) fun j720 =>
              bd1 (ix ((5 * v477) + 4) 30) fun j722 =>
              some ((upd (upd (upd (upd (upd g480 j714 x644) j716 x677) j718 r658) j720 r692) j722 r696))
            else
              some (g480)
            : Option ((Nat → Int32))) fun f711 =>
          fX6_readPeople_L2 m_tape m_typed n (v477 + 1) x698 x697 f711
        else
          some (x606, v478, g480, v477)
    else
      some (v479, v478, g480, v477)
def fX6_readPeople (m_tape : Nat → Int32) (m_typed : Int32) (m_place : Int32) (m_isFault : Int32) (m_read : Nat → Int32) : Option (Int32 × Int32 × Int32 × (Nat → Int32)) :=
  bd4 (fX6_readPeople_L2 m_tape m_typed fl 0 m_isFault m_place m_read) fun o484 o485 q486 o487 =>
  some (o487, o484, o485, q486)
theorem cal_X6_in : CalS yX6_in cX6_in 6 (some .boolean) 3 := ⟨t_795, t_794, t_43, by decide +kernel⟩
set_option maxHeartbeats 4000000 in
set_option maxRecDepth 100000 in
theorem cX6_in_ok (l : Launch) (d : va_G) (cy : Nat → ClassId) (i0 : Int64) (i2 : Int64) (i4 : Int64) (r : Int32) (h0 : fX6_in i0 i2 i4 = some (r)) : CI l yX6_in cX6_in 6 (some .boolean) 0 0 d cy [.long i0, .long i2, .long i4] ([]) ([]) r := by
  refine CZ.of (by decide) (Nat.le_of_ble_eq_true rfl) ?_
  intro p e s m args below meth c A ls Q F hret hw hl
  have hx := F.1
  have hb := F.2.1
  have hl : lv_has ls 6 [(0, .long i0), (2, .long i2), (4, .long i4)] := hl
  rw [fX6_in] at h0
  refine lv_lload_n hx hb dX6_in_0 rfl (lv_at hl 0 rfl) ?_
  refine lv_lload_n hx hb dX6_in_1 rfl (lv_at hl 1 rfl) ?_
  refine W.lcmp hx hb dX6_in_2 ?_
  refine lv_if_lt (tgt := 17) hx hb dX6_in_3 (by decide) (fun c1 => ?_) (fun c1 => ?_)
  · rw [if_pos c1] at h0
    refine lv_iconst (v := 0) hx hb dX6_in_17 (by decide) ?_
    obtain rfl := inj1 h0
    exact hret _ _ _ _ rfl hw dX6_in_18
  · rw [if_neg c1] at h0
    refine lv_lload_n hx hb dX6_in_6 rfl (lv_at hl 0 rfl) ?_
    refine lv_lload hx hb dX6_in_7 (lv_at hl 2 rfl) ?_
    refine W.lcmp hx hb dX6_in_9 ?_
    refine lv_if_gt (tgt := 17) hx hb dX6_in_10 (by decide) (fun c2 => ?_) (fun c2 => ?_)
    · rw [if_pos c2] at h0
      refine lv_iconst (v := 0) hx hb dX6_in_17 (by decide) ?_
      obtain rfl := inj1 h0
      exact hret _ _ _ _ rfl hw dX6_in_18
    · rw [if_neg c2] at h0
      refine lv_iconst (v := 1) hx hb dX6_in_13 (by decide) ?_
      refine lv_goto (tgt := 18) hx hb dX6_in_14 (by decide) ?_
      obtain rfl := inj1 h0
      exact hret _ _ _ _ rfl hw dX6_in_18
theorem cal_X6_isPerson : CalV yX6_isPerson cX6_isPerson 2 (some .boolean) RX6 1 := ⟨t_807, t_806, t_4, t_43, by decide +kernel⟩
set_option maxHeartbeats 4000000 in
set_option maxRecDepth 100000 in
theorem cX6_isPerson_ok (l : Launch) (d : va_G) (cy : Nat → ClassId) (m0 m1 m2 m3 m4 m5 m6 m7 m8 m9 m10 : Nat) (m_now : Nat → Int32) (m_tape : Nat → Int32) (m_typed : Int32) (m_place : Int32) (m_isFault : Int32) (m_readWet : Int32) (m_readHarvest : Int32) (m_read : Nat → Int32) (m_undone : Nat → Int32) (m_undos : Int32) (m_bestGain : Int32) (m_aside : Nat → Int32) (m_kept : Nat → Int32) (m_keptUndos : Int32) (m_isKept : Int32) (m_lanes : Nat → Int32) (m_sizes : Nat → Int32) (m_items : Nat → Int64) (m_moved : Nat → Int64) (i1 : Int32) (r : Int32) (h0 : fX6_isPerson m_now i1 = some (r)) : CI l yX6_isPerson cX6_isPerson 2 (some .boolean) 1 25 d cy [.ref m0, .int i1] (wM cy m0 m1 m2 m3 m4 m5 m6 m7 m8 m9 m10 m_now m_tape m_typed m_place m_isFault m_readWet m_readHarvest m_read m_undone m_undos m_bestGain m_aside m_kept m_keptUndos m_isKept m_lanes m_sizes m_items m_moved) (wM cy m0 m1 m2 m3 m4 m5 m6 m7 m8 m9 m10 m_now m_tape m_typed m_place m_isFault m_readWet m_readHarvest m_read m_undone m_undos m_bestGain m_aside m_kept m_keptUndos m_isKept m_lanes m_sizes m_items m_moved) r := by
  refine CZ.of (by decide) (Nat.le_of_ble_eq_true rfl) ?_
  intro p e s m args below meth c A ls Q F hret hw hl
  have hx := F.1
  have hb := F.2.1
  have hl : lv_has ls 2 [(0, .ref m0), (1, .int i1)] := hl
  rw [fX6_isPerson] at h0
  refine lv_iload_n hx hb dX6_isPerson_0 rfl (lv_at hl 1 rfl) ?_
  refine lv_i2l hx hb dX6_isPerson_1 rfl ?_
  refine lv_lconst (v := 0) hx hb dX6_isPerson_2 (by decide) ?_
  refine lv_aload_n hx hb dX6_isPerson_3 rfl (lv_at hl 0 rfl) ?_
  refine g_get F inG6 hw 0 rfl rfl 0 (by decide) t_730 (fun _ h9 => h9) rfl dX6_isPerson_4 ?_
  refine lv_iconst (v := 0) hx hb dX6_isPerson_7 (by decide) ?_
  obtain ⟨j1, k2, h6⟩ := ob1 h0
  clear h0
  refine g_iald F hw 1 rfl k2 dX6_isPerson_8 ?_
  refine lv_iconst (v := 1) hx hb dX6_isPerson_9 (by decide) ?_
  refine lv_isub hx hb dX6_isPerson_10 ?_
  refine lv_i2l hx hb dX6_isPerson_11 rfl ?_
  obtain ⟨r3, k4, h7⟩ := ob1 h6
  clear h6
  refine g_si F (cX6_in_ok l d cy (Int32.toInt64 i1) 0 (Int32.toInt64 ((m_now j1) - 1)) r3 k4) cal_X6_in t_793 rfl ⟨by decide, by decide⟩ hw (w' := wM cy m0 m1 m2 m3 m4 m5 m6 m7 m8 m9 m10 m_now m_tape m_typed m_place m_isFault m_readWet m_readHarvest m_read m_undone m_undos m_bestGain m_aside m_kept m_keptUndos m_isKept m_lanes m_sizes m_items m_moved) Cut.nil hl.1 (Nat.le_of_ble_eq_true rfl) rfl dX6_isPerson_12 (fun H locs hw => ?_)
  obtain ⟨k5, h8⟩ := ob0 h7
  clear h7
  obtain rfl := inj1 h8
  exact hret _ _ _ _ (isb_nar k5) hw dX6_isPerson_15
theorem cal_X6_isHalf : CalS yX6_isHalf cX6_isHalf 1 (some .boolean) 1 := ⟨t_856, t_855, t_43, by decide +kernel⟩
set_option maxHeartbeats 4000000 in
set_option maxRecDepth 100000 in
theorem cX6_isHalf_ok (l : Launch) (d : va_G) (cy : Nat → ClassId) (i0 : Int32) (r : Int32) (h0 : fX6_isHalf i0 = some (r)) : CI l yX6_isHalf cX6_isHalf 1 (some .boolean) 1 25 d cy [.int i0] ([]) ([]) r := by
  refine CZ.of (by decide) (Nat.le_of_ble_eq_true rfl) ?_
  intro p e s m args below meth c A ls Q F hret hw hl
  have hx := F.1
  have hb := F.2.1
  have hl : lv_has ls 1 [(0, .int i0)] := hl
  rw [fX6_isHalf] at h0
  refine lv_iload_n hx hb dX6_isHalf_0 rfl (lv_at hl 0 rfl) ?_
  refine lv_i2l hx hb dX6_isHalf_1 rfl ?_
  refine lv_lconst (v := 0) hx hb dX6_isHalf_2 (by decide) ?_
  refine lv_ldc2 (v := 11) hx hb F.2.2.2.2.2.1 (F.2.2.2.2.2.2.1 _ t_857) dX6_isHalf_3 ?_
  obtain ⟨r1, k2, h4⟩ := ob1 h0
  clear h0
  refine g_si F (cX6_in_ok l d cy (Int32.toInt64 i0) 0 11 r1 k2) cal_X6_in t_793 rfl ⟨by decide, by decide⟩ hw (w' := []) Cut.nil hl.1 (Nat.le_of_ble_eq_true rfl) rfl dX6_isHalf_6 (fun H locs hw => ?_)
  obtain ⟨k3, h5⟩ := ob0 h4
  clear h4
  obtain rfl := inj1 h5
  exact hret _ _ _ _ (isb_nar k3) hw dX6_isHalf_9
theorem cal_X6_ofPerson : CalV yX6_ofPerson cX6_ofPerson 3 (some .int) RX6 2 := ⟨t_811, t_810, t_5, t_43, by decide +kernel⟩
set_option maxHeartbeats 4000000 in
set_option maxRecDepth 100000 in
theorem cX6_ofPerson_ok (l : Launch) (d : va_G) (cy : Nat → ClassId) (m0 m1 m2 m3 m4 m5 m6 m7 m8 m9 m10 : Nat) (m_now : Nat → Int32) (m_tape : Nat → Int32) (m_typed : Int32) (m_place : Int32) (m_isFault : Int32) (m_readWet : Int32) (m_readHarvest : Int32) (m_read : Nat → Int32) (m_undone : Nat → Int32) (m_undos : Int32) (m_bestGain : Int32) (m_aside : Nat → Int32) (m_kept : Nat → Int32) (m_keptUndos : Int32) (m_isKept : Int32) (m_lanes : Nat → Int32) (m_sizes : Nat → Int32) (m_items : Nat → Int64) (m_moved : Nat → Int64) (i1 : Int32) (i2 : Int32) (r : Int32) (h0 : fX6_ofPerson m_now i1 i2 = some (r)) : CI l yX6_ofPerson cX6_ofPerson 3 (some .int) 0 0 d cy [.ref m0, .int i1, .int i2] (wM cy m0 m1 m2 m3 m4 m5 m6 m7 m8 m9 m10 m_now m_tape m_typed m_place m_isFault m_readWet m_readHarvest m_read m_undone m_undos m_bestGain m_aside m_kept m_keptUndos m_isKept m_lanes m_sizes m_items m_moved) (wM cy m0 m1 m2 m3 m4 m5 m6 m7 m8 m9 m10 m_now m_tape m_typed m_place m_isFault m_readWet m_readHarvest m_read m_undone m_undos m_bestGain m_aside m_kept m_keptUndos m_isKept m_lanes m_sizes m_items m_moved) r := by
  refine CI.of (by decide) (Nat.le_of_ble_eq_true rfl) ?_
  intro p e s m args below meth c A ls Q F hret hw hl
  have hx := F.1
  have hb := F.2.1
  have hl : lv_has ls 3 [(0, .ref m0), (1, .int i1), (2, .int i2)] := hl
  rw [fX6_ofPerson] at h0
  refine lv_aload_n hx hb dX6_ofPerson_0 rfl (lv_at hl 0 rfl) ?_
  refine g_get F inG6 hw 0 rfl rfl 0 (by decide) t_730 (fun _ h9 => h9) rfl dX6_ofPerson_1 ?_
  refine lv_iconst (v := 5) hx hb dX6_ofPerson_4 (by decide) ?_
  refine lv_iconst (v := 3) hx hb dX6_ofPerson_5 (by decide) ?_
  refine lv_iload_n hx hb dX6_ofPerson_6 rfl (lv_at hl 1 rfl) ?_
  refine lv_imul hx hb dX6_ofPerson_7 ?_
  refine lv_iadd hx hb dX6_ofPerson_8 ?_
  refine lv_iload_n hx hb dX6_ofPerson_9 rfl (lv_at hl 2 rfl) ?_
  refine lv_iadd hx hb dX6_ofPerson_10 ?_
  obtain ⟨j1, k2, h3⟩ := ob1 h0
  clear h0
  refine g_iald F hw 1 rfl k2 dX6_ofPerson_11 ?_
  obtain rfl := inj1 h3
  exact hret _ _ _ _ hw dX6_ofPerson_12
theorem cal_X6_manyOf : CalV yX6_manyOf cX6_manyOf 3 (some .int) RX6 2 := ⟨t_833, t_832, t_8, t_43, by decide +kernel⟩
set_option maxHeartbeats 4000000 in
set_option maxRecDepth 100000 in
theorem cX6_manyOf_ok (l : Launch) (d : va_G) (cy : Nat → ClassId) (m0 m1 m2 m3 m4 m5 m6 m7 m8 m9 m10 : Nat) (m_now : Nat → Int32) (m_tape : Nat → Int32) (m_typed : Int32) (m_place : Int32) (m_isFault : Int32) (m_readWet : Int32) (m_readHarvest : Int32) (m_read : Nat → Int32) (m_undone : Nat → Int32) (m_undos : Int32) (m_bestGain : Int32) (m_aside : Nat → Int32) (m_kept : Nat → Int32) (m_keptUndos : Int32) (m_isKept : Int32) (m_lanes : Nat → Int32) (m_sizes : Nat → Int32) (m_items : Nat → Int64) (m_moved : Nat → Int64) (i1 : Int32) (i2 : Int32) (r : Int32) (h0 : fX6_manyOf m_now i1 i2 = some (r)) : CI l yX6_manyOf cX6_manyOf 3 (some .int) 0 0 d cy [.ref m0, .int i1, .int i2] (wM cy m0 m1 m2 m3 m4 m5 m6 m7 m8 m9 m10 m_now m_tape m_typed m_place m_isFault m_readWet m_readHarvest m_read m_undone m_undos m_bestGain m_aside m_kept m_keptUndos m_isKept m_lanes m_sizes m_items m_moved) (wM cy m0 m1 m2 m3 m4 m5 m6 m7 m8 m9 m10 m_now m_tape m_typed m_place m_isFault m_readWet m_readHarvest m_read m_undone m_undos m_bestGain m_aside m_kept m_keptUndos m_isKept m_lanes m_sizes m_items m_moved) r := by
  refine CI.of (by decide) (Nat.le_of_ble_eq_true rfl) ?_
  intro p e s m args below meth c A ls Q F hret hw hl
  have hx := F.1
  have hb := F.2.1
  have hl : lv_has ls 3 [(0, .ref m0), (1, .int i1), (2, .int i2)] := hl
  rw [fX6_manyOf] at h0
  refine lv_aload_n hx hb dX6_manyOf_0 rfl (lv_at hl 0 rfl) ?_
  refine g_get F inG6 hw 0 rfl rfl 0 (by decide) t_730 (fun _ h9 => h9) rfl dX6_manyOf_1 ?_
  refine lv_bipush (v := 23) hx hb dX6_manyOf_4 (by decide) ?_
  refine lv_bipush (v := 12) hx hb dX6_manyOf_6 (by decide) ?_
  refine lv_iload_n hx hb dX6_manyOf_8 rfl (lv_at hl 1 rfl) ?_
  refine lv_imul hx hb dX6_manyOf_9 ?_
  refine lv_iadd hx hb dX6_manyOf_10 ?_
  refine lv_iload_n hx hb dX6_manyOf_11 rfl (lv_at hl 2 rfl) ?_
  refine lv_iadd hx hb dX6_manyOf_12 ?_
  obtain ⟨j1, k2, h3⟩ := ob1 h0
  clear h0
  refine g_iald F hw 1 rfl k2 dX6_manyOf_13 ?_
  obtain rfl := inj1 h3
  exact hret _ _ _ _ hw dX6_manyOf_14
theorem cal_X6_hasOne : CalV yX6_hasOne cX6_hasOne 3 (some .boolean) RX6 2 := ⟨t_829, t_828, t_7, t_43, by decide +kernel⟩
set_option maxHeartbeats 4000000 in
set_option maxRecDepth 100000 in
theorem cX6_hasOne_ok (l : Launch) (d : va_G) (cy : Nat → ClassId) (m0 m1 m2 m3 m4 m5 m6 m7 m8 m9 m10 : Nat) (m_now : Nat → Int32) (m_tape : Nat → Int32) (m_typed : Int32) (m_place : Int32) (m_isFault : Int32) (m_readWet : Int32) (m_readHarvest : Int32) (m_read : Nat → Int32) (m_undone : Nat → Int32) (m_undos : Int32) (m_bestGain : Int32) (m_aside : Nat → Int32) (m_kept : Nat → Int32) (m_keptUndos : Int32) (m_isKept : Int32) (m_lanes : Nat → Int32) (m_sizes : Nat → Int32) (m_items : Nat → Int64) (m_moved : Nat → Int64) (i1 : Int32) (i2 : Int32) (r : Int32) (h0 : fX6_hasOne m_now i1 i2 = some (r)) : CI l yX6_hasOne cX6_hasOne 3 (some .boolean) 1 22 d cy [.ref m0, .int i1, .int i2] (wM cy m0 m1 m2 m3 m4 m5 m6 m7 m8 m9 m10 m_now m_tape m_typed m_place m_isFault m_readWet m_readHarvest m_read m_undone m_undos m_bestGain m_aside m_kept m_keptUndos m_isKept m_lanes m_sizes m_items m_moved) (wM cy m0 m1 m2 m3 m4 m5 m6 m7 m8 m9 m10 m_now m_tape m_typed m_place m_isFault m_readWet m_readHarvest m_read m_undone m_undos m_bestGain m_aside m_kept m_keptUndos m_isKept m_lanes m_sizes m_items m_moved) r := by
  refine CZ.of (by decide) (Nat.le_of_ble_eq_true rfl) ?_
  intro p e s m args below meth c A ls Q F hret hw hl
  have hx := F.1
  have hb := F.2.1
  have hl : lv_has ls 3 [(0, .ref m0), (1, .int i1), (2, .int i2)] := hl
  rw [fX6_hasOne] at h0
  refine lv_aload_n hx hb dX6_hasOne_0 rfl (lv_at hl 0 rfl) ?_
  refine lv_iload_n hx hb dX6_hasOne_1 rfl (lv_at hl 1 rfl) ?_
  refine lv_iload_n hx hb dX6_hasOne_2 rfl (lv_at hl 2 rfl) ?_
  obtain ⟨r1, k2, h4⟩ := ob1 h0
  clear h0
  refine g_vi F (cX6_manyOf_ok l d cy m0 m1 m2 m3 m4 m5 m6 m7 m8 m9 m10 m_now m_tape m_typed m_place m_isFault m_readWet m_readHarvest m_read m_undone m_undos m_bestGain m_aside m_kept m_keptUndos m_isKept m_lanes m_sizes m_items m_moved i1 i2 r1 k2) cal_X6_manyOf t_830 rfl ⟨by decide, by decide⟩ hw (w' := wM cy m0 m1 m2 m3 m4 m5 m6 m7 m8 m9 m10 m_now m_tape m_typed m_place m_isFault m_readWet m_readHarvest m_read m_undone m_undos m_bestGain m_aside m_kept m_keptUndos m_isKept m_lanes m_sizes m_items m_moved) Cut.all 0 6 rfl rfl hl.1 (Nat.le_of_ble_eq_true rfl) rfl dX6_hasOne_3 (fun H locs hw => ?_)
  refine lv_if_le (tgt := 13) hx hb dX6_hasOne_6 (by decide) (fun c3 => ?_) (fun c3 => ?_)
  · rw [if_pos c3] at h4
    refine lv_iconst (v := 0) hx hb dX6_hasOne_13 (by decide) ?_
    obtain rfl := inj1 h4
    exact hret _ _ _ _ rfl hw dX6_hasOne_14
  · rw [if_neg c3] at h4
    refine lv_iconst (v := 1) hx hb dX6_hasOne_9 (by decide) ?_
    refine lv_goto (tgt := 14) hx hb dX6_hasOne_10 (by decide) ?_
    obtain rfl := inj1 h4
    exact hret _ _ _ _ rfl hw dX6_hasOne_14
theorem cal_X6_gets : CalV yX6_gets cX6_gets 4 none RX6 3 := ⟨t_917, t_916, t_22, t_43, by decide +kernel⟩
set_option maxHeartbeats 4000000 in
set_option maxRecDepth 100000 in
theorem cX6_gets_ok (l : Launch) (d : va_G) (cy : Nat → ClassId) (m0 m1 m2 m3 m4 m5 m6 m7 m8 m9 m10 : Nat) (m_now : Nat → Int32) (m_tape : Nat → Int32) (m_typed : Int32) (m_place : Int32) (m_isFault : Int32) (m_readWet : Int32) (m_readHarvest : Int32) (m_read : Nat → Int32) (m_undone : Nat → Int32) (m_undos : Int32) (m_bestGain : Int32) (m_aside : Nat → Int32) (m_kept : Nat → Int32) (m_keptUndos : Int32) (m_isKept : Int32) (m_lanes : Nat → Int32) (m_sizes : Nat → Int32) (m_items : Nat → Int64) (m_moved : Nat → Int64) (i1 : Int32) (i2 : Int32) (i3 : Int32) (m_now_r : Nat → Int32) (h0 : fX6_gets m_now i1 i2 i3 = some (m_now_r)) : CV l yX6_gets cX6_gets 4 none 0 0 d cy [.ref m0, .int i1, .int i2, .int i3] (wM cy m0 m1 m2 m3 m4 m5 m6 m7 m8 m9 m10 m_now m_tape m_typed m_place m_isFault m_readWet m_readHarvest m_read m_undone m_undos m_bestGain m_aside m_kept m_keptUndos m_isKept m_lanes m_sizes m_items m_moved) (wM cy m0 m1 m2 m3 m4 m5 m6 m7 m8 m9 m10 m_now_r m_tape m_typed m_place m_isFault m_readWet m_readHarvest m_read m_undone m_undos m_bestGain m_aside m_kept m_keptUndos m_isKept m_lanes m_sizes m_items m_moved) := by
  refine CV.of (by decide) (Nat.le_of_ble_eq_true rfl) ?_
  intro p e s m args below meth c A ls Q F hret hw hl
  have hx := F.1
  have hb := F.2.1
  have hl : lv_has ls 4 [(0, .ref m0), (1, .int i1), (2, .int i2), (3, .int i3)] := hl
  rw [fX6_gets] at h0
  refine lv_aload_n hx hb dX6_gets_0 rfl (lv_at hl 0 rfl) ?_
  refine g_get F inG6 hw 0 rfl rfl 0 (by decide) t_730 (fun _ h9 => h9) rfl dX6_gets_1 ?_
  refine lv_bipush (v := 23) hx hb dX6_gets_4 (by decide) ?_
  refine lv_bipush (v := 12) hx hb dX6_gets_6 (by decide) ?_
  refine lv_iload_n hx hb dX6_gets_8 rfl (lv_at hl 1 rfl) ?_
  refine lv_imul hx hb dX6_gets_9 ?_
  refine lv_iadd hx hb dX6_gets_10 ?_
  refine lv_iload_n hx hb dX6_gets_11 rfl (lv_at hl 2 rfl) ?_
  refine lv_iadd hx hb dX6_gets_12 ?_
  refine lv_dup2_11 hx hb dX6_gets_13 rfl rfl ?_
  obtain ⟨j1, k2, h3⟩ := ob1 h0
  clear h0
  refine g_iald F hw 1 rfl k2 dX6_gets_14 ?_
  refine lv_iload_n hx hb dX6_gets_15 rfl (lv_at hl 3 rfl) ?_
  refine lv_iadd hx hb dX6_gets_16 ?_
  refine g_iast F hw 1 rfl k2 dX6_gets_17 (w' := wM cy m0 m1 m2 m3 m4 m5 m6 m7 m8 m9 m10 (upd m_now j1 ((m_now j1) + i3)) m_tape m_typed m_place m_isFault m_readWet m_readHarvest m_read m_undone m_undos m_bestGain m_aside m_kept m_keptUndos m_isKept m_lanes m_sizes m_items m_moved) rfl (fun H locs hw => ?_)
  obtain rfl := inj1 h3
  exact hret _ _ _ _ hw dX6_gets_18
theorem cal_X6_pays : CalV yX6_pays cX6_pays 3 none RX6 2 := ⟨t_945, t_944, t_27, t_43, by decide +kernel⟩
set_option maxHeartbeats 4000000 in
set_option maxRecDepth 100000 in
theorem cX6_pays_ok (l : Launch) (d : va_G) (cy : Nat → ClassId) (m0 m1 m2 m3 m4 m5 m6 m7 m8 m9 m10 : Nat) (m_now : Nat → Int32) (m_tape : Nat → Int32) (m_typed : Int32) (m_place : Int32) (m_isFault : Int32) (m_readWet : Int32) (m_readHarvest : Int32) (m_read : Nat → Int32) (m_undone : Nat → Int32) (m_undos : Int32) (m_bestGain : Int32) (m_aside : Nat → Int32) (m_kept : Nat → Int32) (m_keptUndos : Int32) (m_isKept : Int32) (m_lanes : Nat → Int32) (m_sizes : Nat → Int32) (m_items : Nat → Int64) (m_moved : Nat → Int64) (i1 : Int32) (i2 : Int32) (m_now_r : Nat → Int32) (h0 : fX6_pays m_now i1 i2 = some (m_now_r)) : CV l yX6_pays cX6_pays 3 none 0 0 d cy [.ref m0, .int i1, .int i2] (wM cy m0 m1 m2 m3 m4 m5 m6 m7 m8 m9 m10 m_now m_tape m_typed m_place m_isFault m_readWet m_readHarvest m_read m_undone m_undos m_bestGain m_aside m_kept m_keptUndos m_isKept m_lanes m_sizes m_items m_moved) (wM cy m0 m1 m2 m3 m4 m5 m6 m7 m8 m9 m10 m_now_r m_tape m_typed m_place m_isFault m_readWet m_readHarvest m_read m_undone m_undos m_bestGain m_aside m_kept m_keptUndos m_isKept m_lanes m_sizes m_items m_moved) := by
  refine CV.of (by decide) (Nat.le_of_ble_eq_true rfl) ?_
  intro p e s m args below meth c A ls Q F hret hw hl
  have hx := F.1
  have hb := F.2.1
  have hl : lv_has ls 3 [(0, .ref m0), (1, .int i1), (2, .int i2)] := hl
  rw [fX6_pays] at h0
  refine lv_aload_n hx hb dX6_pays_0 rfl (lv_at hl 0 rfl) ?_
  refine g_get F inG6 hw 0 rfl rfl 0 (by decide) t_730 (fun _ h9 => h9) rfl dX6_pays_1 ?_
  refine lv_iconst (v := 5) hx hb dX6_pays_4 (by decide) ?_
  refine lv_iconst (v := 3) hx hb dX6_pays_5 (by decide) ?_
  refine lv_iload_n hx hb dX6_pays_6 rfl (lv_at hl 1 rfl) ?_
  refine lv_imul hx hb dX6_pays_7 ?_
  refine lv_iadd hx hb dX6_pays_8 ?_
  refine lv_iconst (v := 2) hx hb dX6_pays_9 (by decide) ?_
  refine lv_iadd hx hb dX6_pays_10 ?_
  refine lv_dup2_11 hx hb dX6_pays_11 rfl rfl ?_
  obtain ⟨j1, k2, h3⟩ := ob1 h0
  clear h0
  refine g_iald F hw 1 rfl k2 dX6_pays_12 ?_
  refine lv_iload_n hx hb dX6_pays_13 rfl (lv_at hl 2 rfl) ?_
  refine lv_isub hx hb dX6_pays_14 ?_
  refine g_iast F hw 1 rfl k2 dX6_pays_15 (w' := wM cy m0 m1 m2 m3 m4 m5 m6 m7 m8 m9 m10 (upd m_now j1 ((m_now j1) - i2)) m_tape m_typed m_place m_isFault m_readWet m_readHarvest m_read m_undone m_undos m_bestGain m_aside m_kept m_keptUndos m_isKept m_lanes m_sizes m_items m_moved) rfl (fun H locs hw => ?_)
  obtain rfl := inj1 h3
  exact hret _ _ _ _ hw dX6_pays_16
theorem cal_X6_worthIf : CalV yX6_worthIf cX6_worthIf 8 (some .int) RX6 2 := ⟨t_849, t_848, t_12, t_43, by decide +kernel⟩
set_option maxHeartbeats 4000000 in
set_option maxRecDepth 100000 in
theorem cX6_worthIf_ok (l : Launch) (d : va_G) (cy : Nat → ClassId) (m0 m1 m2 m3 m4 m5 m6 m7 m8 m9 m10 : Nat) (m_now : Nat → Int32) (m_tape : Nat → Int32) (m_typed : Int32) (m_place : Int32) (m_isFault : Int32) (m_readWet : Int32) (m_readHarvest : Int32) (m_read : Nat → Int32) (m_undone : Nat → Int32) (m_undos : Int32) (m_bestGain : Int32) (m_aside : Nat → Int32) (m_kept : Nat → Int32) (m_keptUndos : Int32) (m_isKept : Int32) (m_lanes : Nat → Int32) (m_sizes : Nat → Int32) (m_items : Nat → Int64) (m_moved : Nat → Int64) (i1 : Int32) (i2 : Int32) (r : Int32) (h0 : fX6_worthIf m_now i1 i2 = some (r)) : CI l yX6_worthIf cX6_worthIf 8 (some .int) 2 44 d cy [.ref m0, .int i1, .int i2] (wM cy m0 m1 m2 m3 m4 m5 m6 m7 m8 m9 m10 m_now m_tape m_typed m_place m_isFault m_readWet m_readHarvest m_read m_undone m_undos m_bestGain m_aside m_kept m_keptUndos m_isKept m_lanes m_sizes m_items m_moved) (wM cy m0 m1 m2 m3 m4 m5 m6 m7 m8 m9 m10 m_now m_tape m_typed m_place m_isFault m_readWet m_readHarvest m_read m_undone m_undos m_bestGain m_aside m_kept m_keptUndos m_isKept m_lanes m_sizes m_items m_moved) r := by
  refine CI.of (by decide) (Nat.le_of_ble_eq_true rfl) ?_
  intro p e s m args below meth c A ls Q F hret hw hl
  have hx := F.1
  have hb := F.2.1
  have hl : lv_has ls 8 [(0, .ref m0), (1, .int i1), (2, .int i2)] := hl
  rw [fX6_worthIf] at h0
  refine lv_iload_n hx hb dX6_worthIf_0 rfl (lv_at hl 2 rfl) ?_
  refine lv_iconst (v := 2) hx hb dX6_worthIf_1 (by decide) ?_
  refine lv_idiv hx hb dX6_worthIf_2 (by decide) ?_
  refine lv_istore_n (lv' := [(3, .int (i2 / 2)), (0, .ref m0), (1, .int i1), (2, .int i2)]) hx hb dX6_worthIf_3 rfl hl (by decide) rfl (fun ls hl => ?_)
  refine lv_aload_n hx hb dX6_worthIf_4 rfl (lv_at hl 1 rfl) ?_
  refine g_get F inG6 hw 0 rfl rfl 0 (by decide) t_730 (fun _ h9 => h9) rfl dX6_worthIf_5 ?_
  refine lv_iconst (v := 2) hx hb dX6_worthIf_8 (by decide) ?_
  obtain ⟨j1, k2, h28⟩ := ob1 h0
  clear h0
  refine g_iald F hw 1 rfl k2 dX6_worthIf_9 ?_
  refine lv_iload_n hx hb dX6_worthIf_10 rfl (lv_at hl 0 rfl) ?_
  refine lv_ishr hx hb dX6_worthIf_11 ?_
  refine lv_iconst (v := 1) hx hb dX6_worthIf_12 (by decide) ?_
  refine lv_iand hx hb dX6_worthIf_13 ?_
  refine lv_iconst (v := 1) hx hb dX6_worthIf_14 (by decide) ?_
  obtain ⟨x4, h29, h30⟩ := ob1 h28
  clear h28
  have kont5 : ∀ (H : Heap) (locs : List Loc) (ls : Array Slot), Wd d A s.heap (wM cy m0 m1 m2 m3 m4 m5 m6 m7 m8 m9 m10 m_now m_tape m_typed m_place m_isFault m_readWet m_readHarvest m_read m_undone m_undos m_bestGain m_aside m_kept m_keptUndos m_isKept m_lanes m_sizes m_items m_moved) H locs → lv_has ls 8 [(0, .ref m0), (1, .int i1), (2, .int i2), (3, .int (i2 / 2))] → W p l e (rmo 2 44) s m args below meth c H locs 0 0 Q (F0 m 24 ls [.int x4]) := by
    intro H locs ls hw hl
    clear h29
    refine lv_istore (lv' := [(4, .int x4), (0, .ref m0), (1, .int i1), (2, .int i2), (3, .int (i2 / 2))]) hx hb dX6_worthIf_24 hl (by decide) rfl (fun ls hl => ?_)
    refine lv_iload hx hb dX6_worthIf_26 (lv_at hl 0 rfl) ?_
    refine lv_aload_n hx hb dX6_worthIf_28 rfl (lv_at hl 1 rfl) ?_
    refine g_get F inG6 hw 0 rfl rfl 0 (by decide) t_730 (fun _ h9 => h9) rfl dX6_worthIf_29 ?_
    refine lv_iconst (v := 3) hx hb dX6_worthIf_32 (by decide) ?_
    obtain ⟨j7, k8, h31⟩ := ob1 h30
    clear h30
    refine g_iald F hw 1 rfl k8 dX6_worthIf_33 ?_
    refine lv_iload_n hx hb dX6_worthIf_34 rfl (lv_at hl 4 rfl) ?_
    refine lv_ishr hx hb dX6_worthIf_35 ?_
    refine lv_iconst (v := 1) hx hb dX6_worthIf_36 (by decide) ?_
    refine lv_iand hx hb dX6_worthIf_37 ?_
    refine lv_iconst (v := 1) hx hb dX6_worthIf_38 (by decide) ?_
    obtain ⟨x10, h32, h33⟩ := ob1 h31
    clear h31
    have kont11 : ∀ (H : Heap) (locs : List Loc) (ls : Array Slot), Wd d A s.heap (wM cy m0 m1 m2 m3 m4 m5 m6 m7 m8 m9 m10 m_now m_tape m_typed m_place m_isFault m_readWet m_readHarvest m_read m_undone m_undos m_bestGain m_aside m_kept m_keptUndos m_isKept m_lanes m_sizes m_items m_moved) H locs → lv_has ls 8 [(0, .ref m0), (1, .int i1), (2, .int i2), (4, .int x4)] → W p l e (rmo 2 44) s m args below meth c H locs 0 0 Q (F0 m 48 ls [.int x10, .int x4]) := by
      intro H locs ls hw hl
      clear h32
      refine lv_iadd hx hb dX6_worthIf_48 ?_
      refine lv_istore (lv' := [(5, .int (x4 + x10)), (0, .ref m0), (1, .int i1), (2, .int i2), (4, .int x4)]) hx hb dX6_worthIf_49 hl (by decide) rfl (fun ls hl => ?_)
      refine lv_iload hx hb dX6_worthIf_51 (lv_at hl 4 rfl) ?_
      refine lv_aload_n hx hb dX6_worthIf_53 rfl (lv_at hl 1 rfl) ?_
      refine lv_iload_n hx hb dX6_worthIf_54 rfl (lv_at hl 2 rfl) ?_
      refine lv_iload_n hx hb dX6_worthIf_55 rfl (lv_at hl 3 rfl) ?_
      refine lv_iconst (v := 1) hx hb dX6_worthIf_56 (by decide) ?_
      refine lv_ixor hx hb dX6_worthIf_57 ?_
      obtain ⟨r13, k14, h34⟩ := ob1 h33
      clear h33
      refine g_vi F (cX6_hasOne_ok l d cy m0 m1 m2 m3 m4 m5 m6 m7 m8 m9 m10 m_now m_tape m_typed m_place m_isFault m_readWet m_readHarvest m_read m_undone m_undos m_bestGain m_aside m_kept m_keptUndos m_isKept m_lanes m_sizes m_items m_moved i1 (i2 ^^^ 1) r13 k14) cal_X6_hasOne t_826 rfl ⟨by decide, by decide⟩ hw (w' := wM cy m0 m1 m2 m3 m4 m5 m6 m7 m8 m9 m10 m_now m_tape m_typed m_place m_isFault m_readWet m_readHarvest m_read m_undone m_undos m_bestGain m_aside m_kept m_keptUndos m_isKept m_lanes m_sizes m_items m_moved) Cut.all 0 6 rfl rfl hl.1 (Nat.le_of_ble_eq_true rfl) rfl dX6_worthIf_58 (fun H locs hw => ?_)
      obtain ⟨x16, h35, h36⟩ := ob1 h34
      clear h34
      have kont17 : ∀ (H : Heap) (locs : List Loc) (ls : Array Slot), Wd d A s.heap (wM cy m0 m1 m2 m3 m4 m5 m6 m7 m8 m9 m10 m_now m_tape m_typed m_place m_isFault m_readWet m_readHarvest m_read m_undone m_undos m_bestGain m_aside m_kept m_keptUndos m_isKept m_lanes m_sizes m_items m_moved) H locs → lv_has ls 8 [(0, .ref m0), (1, .int i1), (2, .int i2), (4, .int x4), (5, .int (x4 + x10))] → W p l e (rmo 2 44) s m args below meth c H locs 0 0 Q (F0 m 69 ls [.int x16, .int x4]) := by
        intro H locs ls hw hl
        clear h35
        refine lv_iadd hx hb dX6_worthIf_69 ?_
        refine lv_istore (lv' := [(6, .int (x4 + x16)), (0, .ref m0), (1, .int i1), (2, .int i2), (4, .int x4), (5, .int (x4 + x10))]) hx hb dX6_worthIf_70 hl (by decide) rfl (fun ls hl => ?_)
        refine lv_aload_n hx hb dX6_worthIf_72 rfl (lv_at hl 1 rfl) ?_
        refine lv_iload_n hx hb dX6_worthIf_73 rfl (lv_at hl 2 rfl) ?_
        refine lv_iconst (v := 1) hx hb dX6_worthIf_74 (by decide) ?_
        obtain ⟨r19, k20, h37⟩ := ob1 h36
        clear h36
        refine g_vi F (cX6_ofPerson_ok l d cy m0 m1 m2 m3 m4 m5 m6 m7 m8 m9 m10 m_now m_tape m_typed m_place m_isFault m_readWet m_readHarvest m_read m_undone m_undos m_bestGain m_aside m_kept m_keptUndos m_isKept m_lanes m_sizes m_items m_moved i1 1 r19 k20) cal_X6_ofPerson t_808 rfl ⟨by decide, by decide⟩ hw (w' := wM cy m0 m1 m2 m3 m4 m5 m6 m7 m8 m9 m10 m_now m_tape m_typed m_place m_isFault m_readWet m_readHarvest m_read m_undone m_undos m_bestGain m_aside m_kept m_keptUndos m_isKept m_lanes m_sizes m_items m_moved) Cut.all 0 6 rfl rfl hl.1 (Nat.le_of_ble_eq_true rfl) rfl dX6_worthIf_75 (fun H locs hw => ?_)
        refine lv_istore (lv' := [(7, .int r19), (6, .int (x4 + x16)), (0, .ref m0), (1, .int i1), (2, .int i2), (4, .int x4), (5, .int (x4 + x10))]) hx hb dX6_worthIf_78 hl (by decide) rfl (fun ls hl => ?_)
        refine lv_aload_n hx hb dX6_worthIf_80 rfl (lv_at hl 2 rfl) ?_
        refine lv_iload_n hx hb dX6_worthIf_81 rfl (lv_at hl 3 rfl) ?_
        refine lv_iconst (v := 0) hx hb dX6_worthIf_82 (by decide) ?_
        obtain ⟨r21, k22, h38⟩ := ob1 h37
        clear h37
        refine g_vi F (cX6_ofPerson_ok l d cy m0 m1 m2 m3 m4 m5 m6 m7 m8 m9 m10 m_now m_tape m_typed m_place m_isFault m_readWet m_readHarvest m_read m_undone m_undos m_bestGain m_aside m_kept m_keptUndos m_isKept m_lanes m_sizes m_items m_moved i1 0 r21 k22) cal_X6_ofPerson t_808 rfl ⟨by decide, by decide⟩ hw (w' := wM cy m0 m1 m2 m3 m4 m5 m6 m7 m8 m9 m10 m_now m_tape m_typed m_place m_isFault m_readWet m_readHarvest m_read m_undone m_undos m_bestGain m_aside m_kept m_keptUndos m_isKept m_lanes m_sizes m_items m_moved) Cut.all 0 6 rfl rfl hl.1 (Nat.le_of_ble_eq_true rfl) rfl dX6_worthIf_83 (fun H locs hw => ?_)
        by_cases c39 : r21 = 0
        · rw [if_pos c39] at h38
          refine lv_tableIn (off := 30) (tgt := 116) hx hb dX6_worthIf_86 (by rw [c39]; decide) (by rw [c39]; decide) (by rw [c39]; rfl) (by decide) ?_
          refine lv_iload hx hb dX6_worthIf_116 (lv_at hl 5 rfl) ?_
          obtain rfl := inj1 h38
          exact hret _ _ _ _ hw dX6_worthIf_118
        rw [if_neg c39] at h38
        by_cases c40 : r21 = 1
        · rw [if_pos c40] at h38
          refine lv_tableIn (off := 33) (tgt := 119) hx hb dX6_worthIf_86 (by rw [c40]; decide) (by rw [c40]; decide) (by rw [c40]; rfl) (by decide) ?_
          refine lv_iload hx hb dX6_worthIf_119 (lv_at hl 6 rfl) ?_
          obtain rfl := inj1 h38
          exact hret _ _ _ _ hw dX6_worthIf_121
        rw [if_neg c40] at h38
        by_cases c41 : r21 = 2
        · rw [if_pos c41] at h38
          refine lv_tableIn (off := 36) (tgt := 122) hx hb dX6_worthIf_86 (by rw [c41]; decide) (by rw [c41]; decide) (by rw [c41]; rfl) (by decide) ?_
          refine lv_iload hx hb dX6_worthIf_122 (lv_at hl 1 rfl) ?_
          obtain rfl := inj1 h38
          exact hret _ _ _ _ hw dX6_worthIf_124
        rw [if_neg c41] at h38
        by_cases c42 : r21 = 3
        · rw [if_pos c42] at h38
          refine lv_tableIn (off := 39) (tgt := 125) hx hb dX6_worthIf_86 (by rw [c42]; decide) (by rw [c42]; decide) (by rw [c42]; rfl) (by decide) ?_
          refine lv_iload hx hb dX6_worthIf_125 (lv_at hl 6 rfl) ?_
          refine lv_iload hx hb dX6_worthIf_127 (lv_at hl 0 rfl) ?_
          refine lv_iload_n hx hb dX6_worthIf_129 rfl (lv_at hl 3 rfl) ?_
          refine lv_icmp_eq (tgt := 147) hx hb dX6_worthIf_130 (by decide) (fun c23 => ?_) (fun c23 => ?_)
          · rw [if_pos c23] at h38
            refine lv_iconst (v := 0) hx hb dX6_worthIf_147 (by decide) ?_
            refine lv_iadd hx hb dX6_worthIf_148 ?_
            obtain rfl := inj1 h38
            exact hret _ _ _ _ hw dX6_worthIf_149
          · rw [if_neg c23] at h38
            refine lv_aload_n hx hb dX6_worthIf_133 rfl (lv_at hl 2 rfl) ?_
            refine lv_iload hx hb dX6_worthIf_134 (lv_at hl 0 rfl) ?_
            refine lv_iload_n hx hb dX6_worthIf_136 rfl (lv_at hl 4 rfl) ?_
            obtain ⟨r24, k25, h43⟩ := ob1 h38
            clear h38
            refine g_vi F (cX6_hasOne_ok l d cy m0 m1 m2 m3 m4 m5 m6 m7 m8 m9 m10 m_now m_tape m_typed m_place m_isFault m_readWet m_readHarvest m_read m_undone m_undos m_bestGain m_aside m_kept m_keptUndos m_isKept m_lanes m_sizes m_items m_moved r19 i2 r24 k25) cal_X6_hasOne t_826 rfl ⟨by decide, by decide⟩ hw (w' := wM cy m0 m1 m2 m3 m4 m5 m6 m7 m8 m9 m10 m_now m_tape m_typed m_place m_isFault m_readWet m_readHarvest m_read m_undone m_undos m_bestGain m_aside m_kept m_keptUndos m_isKept m_lanes m_sizes m_items m_moved) Cut.all 0 6 rfl rfl hl.1 (Nat.le_of_ble_eq_true rfl) rfl dX6_worthIf_137 (fun H locs hw => ?_)
            refine lv_if_eq (tgt := 147) hx hb dX6_worthIf_140 (by decide) (fun c26 => ?_) (fun c26 => ?_)
            · rw [if_pos c26] at h43
              refine lv_iconst (v := 0) hx hb dX6_worthIf_147 (by decide) ?_
              refine lv_iadd hx hb dX6_worthIf_148 ?_
              obtain rfl := inj1 h43
              exact hret _ _ _ _ hw dX6_worthIf_149
            · rw [if_neg c26] at h43
              refine lv_iconst (v := 5) hx hb dX6_worthIf_143 (by decide) ?_
              refine lv_goto (tgt := 148) hx hb dX6_worthIf_144 (by decide) ?_
              refine lv_iadd hx hb dX6_worthIf_148 ?_
              obtain rfl := inj1 h43
              exact hret _ _ _ _ hw dX6_worthIf_149
        rw [if_neg c42] at h38
        have nc39 := lv_neT c39 (a := 0) (by decide)
        have nc40 := lv_neT c40 (a := 1) (by decide)
        have nc41 := lv_neT c41 (a := 2) (by decide)
        have nc42 := lv_neT c42 (a := 3) (by decide)
        refine lv_tableOut (tgt := 150) hx hb dX6_worthIf_86 (by omega) (by decide) ?_
        refine lv_iload_n hx hb dX6_worthIf_150 rfl (lv_at hl 4 rfl) ?_
        refine lv_iconst (v := 2) hx hb dX6_worthIf_151 (by decide) ?_
        refine lv_irem hx hb dX6_worthIf_152 (by decide) ?_
        refine lv_if_ne (tgt := 160) hx hb dX6_worthIf_153 (by decide) (fun c27 => ?_) (fun c27 => ?_)
        · rw [if_neg c27] at h38
          refine lv_iload hx hb dX6_worthIf_160 (lv_at hl 1 rfl) ?_
          obtain rfl := inj1 h38
          exact hret _ _ _ _ hw dX6_worthIf_162
        · rw [if_pos c27] at h38
          refine lv_iconst (v := 0) hx hb dX6_worthIf_156 (by decide) ?_
          refine lv_goto (tgt := 162) hx hb dX6_worthIf_157 (by decide) ?_
          obtain rfl := inj1 h38
          exact hret _ _ _ _ hw dX6_worthIf_162
      clear h36
      refine lv_if_eq (tgt := 68) hx hb dX6_worthIf_61 (by decide) (fun c18 => ?_) (fun c18 => ?_)
      · rw [if_pos c18] at h35
        refine lv_iconst (v := 0) hx hb dX6_worthIf_68 (by decide) ?_
        obtain rfl := inj1 h35
        exact kont17 _ _ _ hw (lv_sub hl [1, 2, 3, 4, 0] rfl)
      · rw [if_neg c18] at h35
        refine lv_iconst (v := 4) hx hb dX6_worthIf_64 (by decide) ?_
        refine lv_goto (tgt := 69) hx hb dX6_worthIf_65 (by decide) ?_
        obtain rfl := inj1 h35
        exact kont17 _ _ _ hw (lv_sub hl [1, 2, 3, 4, 0] rfl)
    clear h33
    refine lv_icmp_ne (tgt := 47) hx hb dX6_worthIf_39 (by decide) (fun c12 => ?_) (fun c12 => ?_)
    · rw [if_neg c12] at h32
      refine lv_iconst (v := 0) hx hb dX6_worthIf_47 (by decide) ?_
      obtain rfl := inj1 h32
      exact kont11 _ _ _ hw (lv_sub hl [1, 2, 3, 0] rfl)
    · rw [if_pos c12] at h32
      refine lv_bipush (v := 9) hx hb dX6_worthIf_42 (by decide) ?_
      refine lv_goto (tgt := 48) hx hb dX6_worthIf_44 (by decide) ?_
      obtain rfl := inj1 h32
      exact kont11 _ _ _ hw (lv_sub hl [1, 2, 3, 0] rfl)
  clear h30
  refine lv_icmp_ne (tgt := 22) hx hb dX6_worthIf_15 (by decide) (fun c6 => ?_) (fun c6 => ?_)
  · rw [if_neg c6] at h29
    refine lv_bipush (v := 6) hx hb dX6_worthIf_22 (by decide) ?_
    obtain rfl := inj1 h29
    exact kont5 _ _ _ hw (lv_sub hl [1, 2, 3, 0] rfl)
  · rw [if_pos c6] at h29
    refine lv_iconst (v := 3) hx hb dX6_worthIf_18 (by decide) ?_
    refine lv_goto (tgt := 24) hx hb dX6_worthIf_19 (by decide) ?_
    obtain rfl := inj1 h29
    exact kont5 _ _ _ hw (lv_sub hl [1, 2, 3, 0] rfl)
theorem cal_X6_worthOf : CalV yX6_worthOf cX6_worthOf 3 (some .int) RX6 2 := ⟨t_845, t_844, t_11, t_43, by decide +kernel⟩
set_option maxHeartbeats 4000000 in
set_option maxRecDepth 100000 in
theorem cX6_worthOf_ok (l : Launch) (d : va_G) (cy : Nat → ClassId) (m0 m1 m2 m3 m4 m5 m6 m7 m8 m9 m10 : Nat) (m_now : Nat → Int32) (m_tape : Nat → Int32) (m_typed : Int32) (m_place : Int32) (m_isFault : Int32) (m_readWet : Int32) (m_readHarvest : Int32) (m_read : Nat → Int32) (m_undone : Nat → Int32) (m_undos : Int32) (m_bestGain : Int32) (m_aside : Nat → Int32) (m_kept : Nat → Int32) (m_keptUndos : Int32) (m_isKept : Int32) (m_lanes : Nat → Int32) (m_sizes : Nat → Int32) (m_items : Nat → Int64) (m_moved : Nat → Int64) (i1 : Int32) (i2 : Int32) (r : Int32) (h0 : fX6_worthOf m_now i1 i2 = some (r)) : CI l yX6_worthOf cX6_worthOf 3 (some .int) 3 71 d cy [.ref m0, .int i1, .int i2] (wM cy m0 m1 m2 m3 m4 m5 m6 m7 m8 m9 m10 m_now m_tape m_typed m_place m_isFault m_readWet m_readHarvest m_read m_undone m_undos m_bestGain m_aside m_kept m_keptUndos m_isKept m_lanes m_sizes m_items m_moved) (wM cy m0 m1 m2 m3 m4 m5 m6 m7 m8 m9 m10 m_now m_tape m_typed m_place m_isFault m_readWet m_readHarvest m_read m_undone m_undos m_bestGain m_aside m_kept m_keptUndos m_isKept m_lanes m_sizes m_items m_moved) r := by
  refine CI.of (by decide) (Nat.le_of_ble_eq_true rfl) ?_
  intro p e s m args below meth c A ls Q F hret hw hl
  have hx := F.1
  have hb := F.2.1
  have hl : lv_has ls 3 [(0, .ref m0), (1, .int i1), (2, .int i2)] := hl
  rw [fX6_worthOf] at h0
  refine lv_aload_n hx hb dX6_worthOf_0 rfl (lv_at hl 0 rfl) ?_
  refine lv_iload_n hx hb dX6_worthOf_1 rfl (lv_at hl 1 rfl) ?_
  refine lv_iload_n hx hb dX6_worthOf_2 rfl (lv_at hl 2 rfl) ?_
  obtain ⟨r1, k2, h6⟩ := ob1 h0
  clear h0
  refine g_vi F (cX6_hasOne_ok l d cy m0 m1 m2 m3 m4 m5 m6 m7 m8 m9 m10 m_now m_tape m_typed m_place m_isFault m_readWet m_readHarvest m_read m_undone m_undos m_bestGain m_aside m_kept m_keptUndos m_isKept m_lanes m_sizes m_items m_moved i1 i2 r1 k2) cal_X6_hasOne t_826 rfl ⟨by decide, by decide⟩ hw (w' := wM cy m0 m1 m2 m3 m4 m5 m6 m7 m8 m9 m10 m_now m_tape m_typed m_place m_isFault m_readWet m_readHarvest m_read m_undone m_undos m_bestGain m_aside m_kept m_keptUndos m_isKept m_lanes m_sizes m_items m_moved) Cut.all 0 6 rfl rfl hl.1 (Nat.le_of_ble_eq_true rfl) rfl dX6_worthOf_3 (fun H locs hw => ?_)
  refine lv_if_eq (tgt := 18) hx hb dX6_worthOf_6 (by decide) (fun c3 => ?_) (fun c3 => ?_)
  · rw [if_pos c3] at h6
    refine lv_iconst (v := 0) hx hb dX6_worthOf_18 (by decide) ?_
    obtain rfl := inj1 h6
    exact hret _ _ _ _ hw dX6_worthOf_19
  · rw [if_neg c3] at h6
    refine lv_aload_n hx hb dX6_worthOf_9 rfl (lv_at hl 0 rfl) ?_
    refine lv_iload_n hx hb dX6_worthOf_10 rfl (lv_at hl 1 rfl) ?_
    refine lv_iload_n hx hb dX6_worthOf_11 rfl (lv_at hl 2 rfl) ?_
    obtain ⟨r4, k5, h7⟩ := ob1 h6
    clear h6
    refine g_vi F (cX6_worthIf_ok l d cy m0 m1 m2 m3 m4 m5 m6 m7 m8 m9 m10 m_now m_tape m_typed m_place m_isFault m_readWet m_readHarvest m_read m_undone m_undos m_bestGain m_aside m_kept m_keptUndos m_isKept m_lanes m_sizes m_items m_moved i1 i2 r4 k5) cal_X6_worthIf t_846 rfl ⟨by decide, by decide⟩ hw (w' := wM cy m0 m1 m2 m3 m4 m5 m6 m7 m8 m9 m10 m_now m_tape m_typed m_place m_isFault m_readWet m_readHarvest m_read m_undone m_undos m_bestGain m_aside m_kept m_keptUndos m_isKept m_lanes m_sizes m_items m_moved) Cut.all 0 6 rfl rfl hl.1 (Nat.le_of_ble_eq_true rfl) rfl dX6_worthOf_12 (fun H locs hw => ?_)
    refine lv_goto (tgt := 19) hx hb dX6_worthOf_15 (by decide) ?_
    obtain rfl := inj1 h7
    exact hret _ _ _ _ hw dX6_worthOf_19
theorem cal_X6_worth : CalV yX6_worth cX6_worth 4 (some .int) RX6 1 := ⟨t_841, t_840, t_10, t_43, by decide +kernel⟩
set_option maxHeartbeats 4000000 in
set_option maxRecDepth 100000 in
theorem cX6_worth_ok (l : Launch) (d : va_G) (cy : Nat → ClassId) (m0 m1 m2 m3 m4 m5 m6 m7 m8 m9 m10 : Nat) (m_now : Nat → Int32) (m_tape : Nat → Int32) (m_typed : Int32) (m_place : Int32) (m_isFault : Int32) (m_readWet : Int32) (m_readHarvest : Int32) (m_read : Nat → Int32) (m_undone : Nat → Int32) (m_undos : Int32) (m_bestGain : Int32) (m_aside : Nat → Int32) (m_kept : Nat → Int32) (m_keptUndos : Int32) (m_isKept : Int32) (m_lanes : Nat → Int32) (m_sizes : Nat → Int32) (m_items : Nat → Int64) (m_moved : Nat → Int64) (i1 : Int32) (r : Int32) (h0 : fX6_worth m_now i1 = some (r)) : CI l yX6_worth cX6_worth 4 (some .int) 4 93 d cy [.ref m0, .int i1] (wM cy m0 m1 m2 m3 m4 m5 m6 m7 m8 m9 m10 m_now m_tape m_typed m_place m_isFault m_readWet m_readHarvest m_read m_undone m_undos m_bestGain m_aside m_kept m_keptUndos m_isKept m_lanes m_sizes m_items m_moved) (wM cy m0 m1 m2 m3 m4 m5 m6 m7 m8 m9 m10 m_now m_tape m_typed m_place m_isFault m_readWet m_readHarvest m_read m_undone m_undos m_bestGain m_aside m_kept m_keptUndos m_isKept m_lanes m_sizes m_items m_moved) r := by
  refine CI.of (by decide) (Nat.le_of_ble_eq_true rfl) ?_
  intro p e s m args below meth c A ls Q F hret hw hl
  have hx := F.1
  have hb := F.2.1
  have hl : lv_has ls 4 [(0, .ref m0), (1, .int i1)] := hl
  rw [fX6_worth] at h0
  refine lv_iconst (v := 0) hx hb dX6_worth_0 (by decide) ?_
  refine lv_istore_n (lv' := [(2, .int 0), (0, .ref m0), (1, .int i1)]) hx hb dX6_worth_1 rfl hl (by decide) rfl (fun ls hl => ?_)
  refine lv_iconst (v := 0) hx hb dX6_worth_2 (by decide) ?_
  refine lv_istore_n (lv' := [(3, .int 0), (2, .int 0), (0, .ref m0), (1, .int i1)]) hx hb dX6_worth_3 rfl hl (by decide) rfl (fun ls hl => ?_)
  obtain ⟨o14, h18, h19⟩ := ob1 h0
  clear h0
  have kont11 : ∀ (H : Heap) (locs : List Loc) (ls : Array Slot), Wd d A s.heap (wM cy m0 m1 m2 m3 m4 m5 m6 m7 m8 m9 m10 m_now m_tape m_typed m_place m_isFault m_readWet m_readHarvest m_read m_undone m_undos m_bestGain m_aside m_kept m_keptUndos m_isKept m_lanes m_sizes m_items m_moved) H locs → lv_has ls 4 [(2, .int o14)] → W p l e (rmo 4 93) s m args below meth c H locs 0 0 Q (F0 m 25 ls []) := by
    intro H locs ls hw hl
    clear h18
    refine lv_iload_n hx hb dX6_worth_25 rfl (lv_at hl 0 rfl) ?_
    obtain rfl := inj1 h19
    exact hret _ _ _ _ hw dX6_worth_26
  clear h19
  have loop13 : ∀ (n : Nat) (v9 : Int32) (v10 : Int32) (H : Heap) (locs : List Loc) (ls : Array Slot), Wd d A s.heap (wM cy m0 m1 m2 m3 m4 m5 m6 m7 m8 m9 m10 m_now m_tape m_typed m_place m_isFault m_readWet m_readHarvest m_read m_undone m_undos m_bestGain m_aside m_kept m_keptUndos m_isKept m_lanes m_sizes m_items m_moved) H locs → lv_has ls 4 [(0, .ref m0), (1, .int i1), (2, .int v9), (3, .int v10)] → fX6_worth_L4 i1 m_now n v9 v10 = some (o14) → W p l e (rmo 4 93) s m args below meth c H locs 0 0 Q (F0 m 4 ls []) := by
    intro n
    induction n with
    | zero =>
      intro v9 v10 H locs ls hw hl h20
      rw [fX6_worth_L4] at h20
      cases h20
    | succ n ih12 =>
      intro v9 v10 H locs ls hw hl h21
      rw [fX6_worth_L4] at h21
      refine lv_iload_n hx hb dX6_worth_4 rfl (lv_at hl 3 rfl) ?_
      refine lv_bipush (v := 12) hx hb dX6_worth_5 (by decide) ?_
      refine lv_icmp_ge (tgt := 25) hx hb dX6_worth_7 (by decide) (fun c15 => ?_) (fun c15 => ?_)
      · rw [if_pos c15] at h21
        obtain rfl := inj1 h21
        exact kont11 _ _ _ hw (lv_sub hl [2] rfl)
      · rw [if_neg c15] at h21
        refine lv_iload_n hx hb dX6_worth_10 rfl (lv_at hl 2 rfl) ?_
        refine lv_aload_n hx hb dX6_worth_11 rfl (lv_at hl 0 rfl) ?_
        refine lv_iload_n hx hb dX6_worth_12 rfl (lv_at hl 1 rfl) ?_
        refine lv_iload_n hx hb dX6_worth_13 rfl (lv_at hl 3 rfl) ?_
        obtain ⟨r16, k17, h22⟩ := ob1 h21
        clear h21
        refine g_vi F (cX6_worthOf_ok l d cy m0 m1 m2 m3 m4 m5 m6 m7 m8 m9 m10 m_now m_tape m_typed m_place m_isFault m_readWet m_readHarvest m_read m_undone m_undos m_bestGain m_aside m_kept m_keptUndos m_isKept m_lanes m_sizes m_items m_moved i1 v10 r16 k17) cal_X6_worthOf t_842 rfl ⟨by decide, by decide⟩ hw (w' := wM cy m0 m1 m2 m3 m4 m5 m6 m7 m8 m9 m10 m_now m_tape m_typed m_place m_isFault m_readWet m_readHarvest m_read m_undone m_undos m_bestGain m_aside m_kept m_keptUndos m_isKept m_lanes m_sizes m_items m_moved) Cut.all 0 6 rfl rfl hl.1 (Nat.le_of_ble_eq_true rfl) rfl dX6_worth_14 (fun H locs hw => ?_)
        refine lv_iadd hx hb dX6_worth_17 ?_
        refine lv_istore_n (lv' := [(2, .int (v9 + r16)), (0, .ref m0), (1, .int i1), (3, .int v10)]) hx hb dX6_worth_18 rfl hl (by decide) rfl (fun ls hl => ?_)
        refine lv_iinc (v := (v10 + 1)) (lv' := [(3, .int (v10 + 1)), (2, .int (v9 + r16)), (0, .ref m0), (1, .int i1)]) hx hb dX6_worth_19 hl (k := 3) rfl rfl (by decide) rfl (fun ls hl => ?_)
        refine lv_goto (tgt := 4) hx hb dX6_worth_22 (by decide) ?_
        exact ih12 (v9 + r16) (v10 + 1) _ _ _ hw (lv_sub hl [2, 3, 1, 0] rfl) h22
  exact loop13 fl 0 0 _ _ _ hw (lv_sub hl [2, 3, 1, 0] rfl) h18
theorem cal_X6_worthAll : CalV yX6_worthAll cX6_worthAll 3 (some .int) RX6 0 := ⟨t_869, t_868, t_13, t_43, by decide +kernel⟩
set_option maxHeartbeats 4000000 in
set_option maxRecDepth 100000 in
theorem cX6_worthAll_ok (l : Launch) (d : va_G) (cy : Nat → ClassId) (m0 m1 m2 m3 m4 m5 m6 m7 m8 m9 m10 : Nat) (m_now : Nat → Int32) (m_tape : Nat → Int32) (m_typed : Int32) (m_place : Int32) (m_isFault : Int32) (m_readWet : Int32) (m_readHarvest : Int32) (m_read : Nat → Int32) (m_undone : Nat → Int32) (m_undos : Int32) (m_bestGain : Int32) (m_aside : Nat → Int32) (m_kept : Nat → Int32) (m_keptUndos : Int32) (m_isKept : Int32) (m_lanes : Nat → Int32) (m_sizes : Nat → Int32) (m_items : Nat → Int64) (m_moved : Nat → Int64) (r : Int32) (h0 : fX6_worthAll m_now = some (r)) : CI l yX6_worthAll cX6_worthAll 3 (some .int) 5 116 d cy [.ref m0] (wM cy m0 m1 m2 m3 m4 m5 m6 m7 m8 m9 m10 m_now m_tape m_typed m_place m_isFault m_readWet m_readHarvest m_read m_undone m_undos m_bestGain m_aside m_kept m_keptUndos m_isKept m_lanes m_sizes m_items m_moved) (wM cy m0 m1 m2 m3 m4 m5 m6 m7 m8 m9 m10 m_now m_tape m_typed m_place m_isFault m_readWet m_readHarvest m_read m_undone m_undos m_bestGain m_aside m_kept m_keptUndos m_isKept m_lanes m_sizes m_items m_moved) r := by
  refine CI.of (by decide) (Nat.le_of_ble_eq_true rfl) ?_
  intro p e s m args below meth c A ls Q F hret hw hl
  have hx := F.1
  have hb := F.2.1
  have hl : lv_has ls 3 [(0, .ref m0)] := hl
  rw [fX6_worthAll] at h0
  refine lv_iconst (v := 0) hx hb dX6_worthAll_0 (by decide) ?_
  refine lv_istore_n (lv' := [(1, .int 0), (0, .ref m0)]) hx hb dX6_worthAll_1 rfl hl (by decide) rfl (fun ls hl => ?_)
  refine lv_iconst (v := 0) hx hb dX6_worthAll_2 (by decide) ?_
  refine lv_istore_n (lv' := [(2, .int 0), (1, .int 0), (0, .ref m0)]) hx hb dX6_worthAll_3 rfl hl (by decide) rfl (fun ls hl => ?_)
  obtain ⟨o18, h24, h25⟩ := ob1 h0
  clear h0
  have kont15 : ∀ (H : Heap) (locs : List Loc) (ls : Array Slot), Wd d A s.heap (wM cy m0 m1 m2 m3 m4 m5 m6 m7 m8 m9 m10 m_now m_tape m_typed m_place m_isFault m_readWet m_readHarvest m_read m_undone m_undos m_bestGain m_aside m_kept m_keptUndos m_isKept m_lanes m_sizes m_items m_moved) H locs → lv_has ls 3 [(1, .int o18)] → W p l e (rmo 5 116) s m args below meth c H locs 0 0 Q (F0 m 28 ls []) := by
    intro H locs ls hw hl
    clear h24
    refine lv_iload_n hx hb dX6_worthAll_28 rfl (lv_at hl 0 rfl) ?_
    obtain rfl := inj1 h25
    exact hret _ _ _ _ hw dX6_worthAll_29
  clear h25
  have loop17 : ∀ (n : Nat) (v13 : Int32) (v14 : Int32) (H : Heap) (locs : List Loc) (ls : Array Slot), Wd d A s.heap (wM cy m0 m1 m2 m3 m4 m5 m6 m7 m8 m9 m10 m_now m_tape m_typed m_place m_isFault m_readWet m_readHarvest m_read m_undone m_undos m_bestGain m_aside m_kept m_keptUndos m_isKept m_lanes m_sizes m_items m_moved) H locs → lv_has ls 3 [(0, .ref m0), (1, .int v13), (2, .int v14)] → fX6_worthAll_L4 m_now n v13 v14 = some (o18) → W p l e (rmo 5 116) s m args below meth c H locs 0 0 Q (F0 m 4 ls []) := by
    intro n
    induction n with
    | zero =>
      intro v13 v14 H locs ls hw hl h26
      rw [fX6_worthAll_L4] at h26
      cases h26
    | succ n ih16 =>
      intro v13 v14 H locs ls hw hl h27
      rw [fX6_worthAll_L4] at h27
      refine lv_iload_n hx hb dX6_worthAll_4 rfl (lv_at hl 2 rfl) ?_
      refine lv_aload_n hx hb dX6_worthAll_5 rfl (lv_at hl 0 rfl) ?_
      refine g_get F inG6 hw 0 rfl rfl 0 (by decide) t_730 (fun _ h9 => h9) rfl dX6_worthAll_6 ?_
      refine lv_iconst (v := 0) hx hb dX6_worthAll_9 (by decide) ?_
      obtain ⟨j19, k20, h28⟩ := ob1 h27
      clear h27
      refine g_iald F hw 1 rfl k20 dX6_worthAll_10 ?_
      refine lv_icmp_ge (tgt := 28) hx hb dX6_worthAll_11 (by decide) (fun c21 => ?_) (fun c21 => ?_)
      · rw [if_pos c21] at h28
        obtain rfl := inj1 h28
        exact kont15 _ _ _ hw (lv_sub hl [1] rfl)
      · rw [if_neg c21] at h28
        refine lv_iload_n hx hb dX6_worthAll_14 rfl (lv_at hl 1 rfl) ?_
        refine lv_aload_n hx hb dX6_worthAll_15 rfl (lv_at hl 0 rfl) ?_
        refine lv_iload_n hx hb dX6_worthAll_16 rfl (lv_at hl 2 rfl) ?_
        obtain ⟨r22, k23, h29⟩ := ob1 h28
        clear h28
        refine g_vi F (cX6_worth_ok l d cy m0 m1 m2 m3 m4 m5 m6 m7 m8 m9 m10 m_now m_tape m_typed m_place m_isFault m_readWet m_readHarvest m_read m_undone m_undos m_bestGain m_aside m_kept m_keptUndos m_isKept m_lanes m_sizes m_items m_moved v14 r22 k23) cal_X6_worth t_838 rfl ⟨by decide, by decide⟩ hw (w' := wM cy m0 m1 m2 m3 m4 m5 m6 m7 m8 m9 m10 m_now m_tape m_typed m_place m_isFault m_readWet m_readHarvest m_read m_undone m_undos m_bestGain m_aside m_kept m_keptUndos m_isKept m_lanes m_sizes m_items m_moved) Cut.all 0 6 rfl rfl hl.1 (Nat.le_of_ble_eq_true rfl) rfl dX6_worthAll_17 (fun H locs hw => ?_)
        refine lv_iadd hx hb dX6_worthAll_20 ?_
        refine lv_istore_n (lv' := [(1, .int (v13 + r22)), (0, .ref m0), (2, .int v14)]) hx hb dX6_worthAll_21 rfl hl (by decide) rfl (fun ls hl => ?_)
        refine lv_iinc (v := (v14 + 1)) (lv' := [(2, .int (v14 + 1)), (1, .int (v13 + r22)), (0, .ref m0)]) hx hb dX6_worthAll_22 hl (k := 2) rfl rfl (by decide) rfl (fun ls hl => ?_)
        refine lv_goto (tgt := 4) hx hb dX6_worthAll_25 (by decide) ?_
        exact ih16 (v13 + r22) (v14 + 1) _ _ _ hw (lv_sub hl [2, 1, 0] rfl) h29
  exact loop17 fl 0 0 _ _ _ hw (lv_sub hl [2, 1, 0] rfl) h24
theorem cal_X6_halves : CalV yX6_halves cX6_halves 4 (some .int) RX6 1 := ⟨t_825, t_824, t_6, t_43, by decide +kernel⟩
set_option maxHeartbeats 4000000 in
set_option maxRecDepth 100000 in
theorem cX6_halves_ok (l : Launch) (d : va_G) (cy : Nat → ClassId) (m0 m1 m2 m3 m4 m5 m6 m7 m8 m9 m10 : Nat) (m_now : Nat → Int32) (m_tape : Nat → Int32) (m_typed : Int32) (m_place : Int32) (m_isFault : Int32) (m_readWet : Int32) (m_readHarvest : Int32) (m_read : Nat → Int32) (m_undone : Nat → Int32) (m_undos : Int32) (m_bestGain : Int32) (m_aside : Nat → Int32) (m_kept : Nat → Int32) (m_keptUndos : Int32) (m_isKept : Int32) (m_lanes : Nat → Int32) (m_sizes : Nat → Int32) (m_items : Nat → Int64) (m_moved : Nat → Int64) (i1 : Int32) (r : Int32) (h0 : fX6_halves m_now i1 = some (r)) : CI l yX6_halves cX6_halves 4 (some .int) 2 44 d cy [.ref m0, .int i1] (wM cy m0 m1 m2 m3 m4 m5 m6 m7 m8 m9 m10 m_now m_tape m_typed m_place m_isFault m_readWet m_readHarvest m_read m_undone m_undos m_bestGain m_aside m_kept m_keptUndos m_isKept m_lanes m_sizes m_items m_moved) (wM cy m0 m1 m2 m3 m4 m5 m6 m7 m8 m9 m10 m_now m_tape m_typed m_place m_isFault m_readWet m_readHarvest m_read m_undone m_undos m_bestGain m_aside m_kept m_keptUndos m_isKept m_lanes m_sizes m_items m_moved) r := by
  refine CI.of (by decide) (Nat.le_of_ble_eq_true rfl) ?_
  intro p e s m args below meth c A ls Q F hret hw hl
  have hx := F.1
  have hb := F.2.1
  have hl : lv_has ls 4 [(0, .ref m0), (1, .int i1)] := hl
  rw [fX6_halves] at h0
  refine lv_iconst (v := 0) hx hb dX6_halves_0 (by decide) ?_
  refine lv_istore_n (lv' := [(2, .int 0), (0, .ref m0), (1, .int i1)]) hx hb dX6_halves_1 rfl hl (by decide) rfl (fun ls hl => ?_)
  refine lv_iconst (v := 0) hx hb dX6_halves_2 (by decide) ?_
  refine lv_istore_n (lv' := [(3, .int 0), (2, .int 0), (0, .ref m0), (1, .int i1)]) hx hb dX6_halves_3 rfl hl (by decide) rfl (fun ls hl => ?_)
  obtain ⟨o22, h30, h31⟩ := ob1 h0
  clear h0
  have kont19 : ∀ (H : Heap) (locs : List Loc) (ls : Array Slot), Wd d A s.heap (wM cy m0 m1 m2 m3 m4 m5 m6 m7 m8 m9 m10 m_now m_tape m_typed m_place m_isFault m_readWet m_readHarvest m_read m_undone m_undos m_bestGain m_aside m_kept m_keptUndos m_isKept m_lanes m_sizes m_items m_moved) H locs → lv_has ls 4 [(2, .int o22)] → W p l e (rmo 2 44) s m args below meth c H locs 0 0 Q (F0 m 35 ls []) := by
    intro H locs ls hw hl
    clear h30
    refine lv_iload_n hx hb dX6_halves_35 rfl (lv_at hl 0 rfl) ?_
    obtain rfl := inj1 h31
    exact hret _ _ _ _ hw dX6_halves_36
  clear h31
  have loop21 : ∀ (n : Nat) (v17 : Int32) (v18 : Int32) (H : Heap) (locs : List Loc) (ls : Array Slot), Wd d A s.heap (wM cy m0 m1 m2 m3 m4 m5 m6 m7 m8 m9 m10 m_now m_tape m_typed m_place m_isFault m_readWet m_readHarvest m_read m_undone m_undos m_bestGain m_aside m_kept m_keptUndos m_isKept m_lanes m_sizes m_items m_moved) H locs → lv_has ls 4 [(0, .ref m0), (1, .int i1), (2, .int v17), (3, .int v18)] → fX6_halves_L4 i1 m_now n v17 v18 = some (o22) → W p l e (rmo 2 44) s m args below meth c H locs 0 0 Q (F0 m 4 ls []) := by
    intro n
    induction n with
    | zero =>
      intro v17 v18 H locs ls hw hl h32
      rw [fX6_halves_L4] at h32
      cases h32
    | succ n ih20 =>
      intro v17 v18 H locs ls hw hl h33
      rw [fX6_halves_L4] at h33
      refine lv_iload_n hx hb dX6_halves_4 rfl (lv_at hl 3 rfl) ?_
      refine lv_bipush (v := 12) hx hb dX6_halves_5 (by decide) ?_
      refine lv_icmp_ge (tgt := 35) hx hb dX6_halves_7 (by decide) (fun c23 => ?_) (fun c23 => ?_)
      · rw [if_pos c23] at h33
        obtain rfl := inj1 h33
        exact kont19 _ _ _ hw (lv_sub hl [2] rfl)
      · rw [if_neg c23] at h33
        refine lv_iload_n hx hb dX6_halves_10 rfl (lv_at hl 2 rfl) ?_
        refine lv_aload_n hx hb dX6_halves_11 rfl (lv_at hl 0 rfl) ?_
        refine lv_iload_n hx hb dX6_halves_12 rfl (lv_at hl 1 rfl) ?_
        refine lv_iload_n hx hb dX6_halves_13 rfl (lv_at hl 3 rfl) ?_
        obtain ⟨r24, k25, h34⟩ := ob1 h33
        clear h33
        refine g_vi F (cX6_hasOne_ok l d cy m0 m1 m2 m3 m4 m5 m6 m7 m8 m9 m10 m_now m_tape m_typed m_place m_isFault m_readWet m_readHarvest m_read m_undone m_undos m_bestGain m_aside m_kept m_keptUndos m_isKept m_lanes m_sizes m_items m_moved i1 v18 r24 k25) cal_X6_hasOne t_826 rfl ⟨by decide, by decide⟩ hw (w' := wM cy m0 m1 m2 m3 m4 m5 m6 m7 m8 m9 m10 m_now m_tape m_typed m_place m_isFault m_readWet m_readHarvest m_read m_undone m_undos m_bestGain m_aside m_kept m_keptUndos m_isKept m_lanes m_sizes m_items m_moved) Cut.all 0 6 rfl rfl hl.1 (Nat.le_of_ble_eq_true rfl) rfl dX6_halves_14 (fun H locs hw => ?_)
        obtain ⟨x27, h35, h36⟩ := ob1 h34
        clear h34
        have kont28 : ∀ (H : Heap) (locs : List Loc) (ls : Array Slot), Wd d A s.heap (wM cy m0 m1 m2 m3 m4 m5 m6 m7 m8 m9 m10 m_now m_tape m_typed m_place m_isFault m_readWet m_readHarvest m_read m_undone m_undos m_bestGain m_aside m_kept m_keptUndos m_isKept m_lanes m_sizes m_items m_moved) H locs → lv_has ls 4 [(0, .ref m0), (1, .int i1), (3, .int v18)] → W p l e (rmo 2 44) s m args below meth c H locs 0 0 Q (F0 m 27 ls [.int x27, .int v17]) := by
          intro H locs ls hw hl
          clear h35
          refine lv_ior hx hb dX6_halves_27 ?_
          refine lv_istore_n (lv' := [(2, .int (v17 ||| x27)), (0, .ref m0), (1, .int i1), (3, .int v18)]) hx hb dX6_halves_28 rfl hl (by decide) rfl (fun ls hl => ?_)
          refine lv_iinc (v := (v18 + 1)) (lv' := [(3, .int (v18 + 1)), (2, .int (v17 ||| x27)), (0, .ref m0), (1, .int i1)]) hx hb dX6_halves_29 hl (k := 3) rfl rfl (by decide) rfl (fun ls hl => ?_)
          refine lv_goto (tgt := 4) hx hb dX6_halves_32 (by decide) ?_
          exact ih20 (v17 ||| x27) (v18 + 1) _ _ _ hw (lv_sub hl [2, 3, 1, 0] rfl) h36
        clear h36
        refine lv_if_eq (tgt := 26) hx hb dX6_halves_17 (by decide) (fun c29 => ?_) (fun c29 => ?_)
        · rw [if_pos c29] at h35
          refine lv_iconst (v := 0) hx hb dX6_halves_26 (by decide) ?_
          obtain rfl := inj1 h35
          exact kont28 _ _ _ hw (lv_sub hl [0, 1, 3] rfl)
        · rw [if_neg c29] at h35
          refine lv_iconst (v := 1) hx hb dX6_halves_20 (by decide) ?_
          refine lv_iload_n hx hb dX6_halves_21 rfl (lv_at hl 3 rfl) ?_
          refine lv_ishl hx hb dX6_halves_22 ?_
          refine lv_goto (tgt := 27) hx hb dX6_halves_23 (by decide) ?_
          obtain rfl := inj1 h35
          exact kont28 _ _ _ hw (lv_sub hl [0, 1, 3] rfl)
  exact loop21 fl 0 0 _ _ _ hw (lv_sub hl [2, 3, 1, 0] rfl) h30
theorem cal_X6_manyAll : CalV yX6_manyAll cX6_manyAll 4 (some .int) RX6 1 := ⟨t_837, t_836, t_9, t_43, by decide +kernel⟩
set_option maxHeartbeats 4000000 in
set_option maxRecDepth 100000 in
theorem cX6_manyAll_ok (l : Launch) (d : va_G) (cy : Nat → ClassId) (m0 m1 m2 m3 m4 m5 m6 m7 m8 m9 m10 : Nat) (m_now : Nat → Int32) (m_tape : Nat → Int32) (m_typed : Int32) (m_place : Int32) (m_isFault : Int32) (m_readWet : Int32) (m_readHarvest : Int32) (m_read : Nat → Int32) (m_undone : Nat → Int32) (m_undos : Int32) (m_bestGain : Int32) (m_aside : Nat → Int32) (m_kept : Nat → Int32) (m_keptUndos : Int32) (m_isKept : Int32) (m_lanes : Nat → Int32) (m_sizes : Nat → Int32) (m_items : Nat → Int64) (m_moved : Nat → Int64) (i1 : Int32) (r : Int32) (h0 : fX6_manyAll m_now i1 = some (r)) : CI l yX6_manyAll cX6_manyAll 4 (some .int) 1 22 d cy [.ref m0, .int i1] (wM cy m0 m1 m2 m3 m4 m5 m6 m7 m8 m9 m10 m_now m_tape m_typed m_place m_isFault m_readWet m_readHarvest m_read m_undone m_undos m_bestGain m_aside m_kept m_keptUndos m_isKept m_lanes m_sizes m_items m_moved) (wM cy m0 m1 m2 m3 m4 m5 m6 m7 m8 m9 m10 m_now m_tape m_typed m_place m_isFault m_readWet m_readHarvest m_read m_undone m_undos m_bestGain m_aside m_kept m_keptUndos m_isKept m_lanes m_sizes m_items m_moved) r := by
  refine CI.of (by decide) (Nat.le_of_ble_eq_true rfl) ?_
  intro p e s m args below meth c A ls Q F hret hw hl
  have hx := F.1
  have hb := F.2.1
  have hl : lv_has ls 4 [(0, .ref m0), (1, .int i1)] := hl
  rw [fX6_manyAll] at h0
  refine lv_iconst (v := 0) hx hb dX6_manyAll_0 (by decide) ?_
  refine lv_istore_n (lv' := [(2, .int 0), (0, .ref m0), (1, .int i1)]) hx hb dX6_manyAll_1 rfl hl (by decide) rfl (fun ls hl => ?_)
  refine lv_iconst (v := 0) hx hb dX6_manyAll_2 (by decide) ?_
  refine lv_istore_n (lv' := [(3, .int 0), (2, .int 0), (0, .ref m0), (1, .int i1)]) hx hb dX6_manyAll_3 rfl hl (by decide) rfl (fun ls hl => ?_)
  obtain ⟨o14, h18, h19⟩ := ob1 h0
  clear h0
  have kont11 : ∀ (H : Heap) (locs : List Loc) (ls : Array Slot), Wd d A s.heap (wM cy m0 m1 m2 m3 m4 m5 m6 m7 m8 m9 m10 m_now m_tape m_typed m_place m_isFault m_readWet m_readHarvest m_read m_undone m_undos m_bestGain m_aside m_kept m_keptUndos m_isKept m_lanes m_sizes m_items m_moved) H locs → lv_has ls 4 [(2, .int o14)] → W p l e (rmo 1 22) s m args below meth c H locs 0 0 Q (F0 m 25 ls []) := by
    intro H locs ls hw hl
    clear h18
    refine lv_iload_n hx hb dX6_manyAll_25 rfl (lv_at hl 0 rfl) ?_
    obtain rfl := inj1 h19
    exact hret _ _ _ _ hw dX6_manyAll_26
  clear h19
  have loop13 : ∀ (n : Nat) (v9 : Int32) (v10 : Int32) (H : Heap) (locs : List Loc) (ls : Array Slot), Wd d A s.heap (wM cy m0 m1 m2 m3 m4 m5 m6 m7 m8 m9 m10 m_now m_tape m_typed m_place m_isFault m_readWet m_readHarvest m_read m_undone m_undos m_bestGain m_aside m_kept m_keptUndos m_isKept m_lanes m_sizes m_items m_moved) H locs → lv_has ls 4 [(0, .ref m0), (1, .int i1), (2, .int v9), (3, .int v10)] → fX6_manyAll_L4 i1 m_now n v9 v10 = some (o14) → W p l e (rmo 1 22) s m args below meth c H locs 0 0 Q (F0 m 4 ls []) := by
    intro n
    induction n with
    | zero =>
      intro v9 v10 H locs ls hw hl h20
      rw [fX6_manyAll_L4] at h20
      cases h20
    | succ n ih12 =>
      intro v9 v10 H locs ls hw hl h21
      rw [fX6_manyAll_L4] at h21
      refine lv_iload_n hx hb dX6_manyAll_4 rfl (lv_at hl 3 rfl) ?_
      refine lv_bipush (v := 12) hx hb dX6_manyAll_5 (by decide) ?_
      refine lv_icmp_ge (tgt := 25) hx hb dX6_manyAll_7 (by decide) (fun c15 => ?_) (fun c15 => ?_)
      · rw [if_pos c15] at h21
        obtain rfl := inj1 h21
        exact kont11 _ _ _ hw (lv_sub hl [2] rfl)
      · rw [if_neg c15] at h21
        refine lv_iload_n hx hb dX6_manyAll_10 rfl (lv_at hl 2 rfl) ?_
        refine lv_aload_n hx hb dX6_manyAll_11 rfl (lv_at hl 0 rfl) ?_
        refine lv_iload_n hx hb dX6_manyAll_12 rfl (lv_at hl 1 rfl) ?_
        refine lv_iload_n hx hb dX6_manyAll_13 rfl (lv_at hl 3 rfl) ?_
        obtain ⟨r16, k17, h22⟩ := ob1 h21
        clear h21
        refine g_vi F (cX6_manyOf_ok l d cy m0 m1 m2 m3 m4 m5 m6 m7 m8 m9 m10 m_now m_tape m_typed m_place m_isFault m_readWet m_readHarvest m_read m_undone m_undos m_bestGain m_aside m_kept m_keptUndos m_isKept m_lanes m_sizes m_items m_moved i1 v10 r16 k17) cal_X6_manyOf t_830 rfl ⟨by decide, by decide⟩ hw (w' := wM cy m0 m1 m2 m3 m4 m5 m6 m7 m8 m9 m10 m_now m_tape m_typed m_place m_isFault m_readWet m_readHarvest m_read m_undone m_undos m_bestGain m_aside m_kept m_keptUndos m_isKept m_lanes m_sizes m_items m_moved) Cut.all 0 6 rfl rfl hl.1 (Nat.le_of_ble_eq_true rfl) rfl dX6_manyAll_14 (fun H locs hw => ?_)
        refine lv_iadd hx hb dX6_manyAll_17 ?_
        refine lv_istore_n (lv' := [(2, .int (v9 + r16)), (0, .ref m0), (1, .int i1), (3, .int v10)]) hx hb dX6_manyAll_18 rfl hl (by decide) rfl (fun ls hl => ?_)
        refine lv_iinc (v := (v10 + 1)) (lv' := [(3, .int (v10 + 1)), (2, .int (v9 + r16)), (0, .ref m0), (1, .int i1)]) hx hb dX6_manyAll_19 hl (k := 3) rfl rfl (by decide) rfl (fun ls hl => ?_)
        refine lv_goto (tgt := 4) hx hb dX6_manyAll_22 (by decide) ?_
        exact ih12 (v9 + r16) (v10 + 1) _ _ _ hw (lv_sub hl [2, 3, 1, 0] rfl) h22
  exact loop13 fl 0 0 _ _ _ hw (lv_sub hl [2, 3, 1, 0] rfl) h18
theorem cal_X6_many : CalS yX6_many cX6_many 3 (some .int) 1 := ⟨t_933, t_932, t_43, by decide +kernel⟩
set_option maxHeartbeats 4000000 in
set_option maxRecDepth 100000 in
theorem cX6_many_ok (l : Launch) (d : va_G) (cy : Nat → ClassId) (i0 : Int32) (r : Int32) (h0 : fX6_many i0 = some (r)) : CI l yX6_many cX6_many 3 (some .int) 0 0 d cy [.int i0] ([]) ([]) r := by
  refine CI.of (by decide) (Nat.le_of_ble_eq_true rfl) ?_
  intro p e s m args below meth c A ls Q F hret hw hl
  have hx := F.1
  have hb := F.2.1
  have hl : lv_has ls 3 [(0, .int i0)] := hl
  rw [fX6_many] at h0
  refine lv_iconst (v := 0) hx hb dX6_many_0 (by decide) ?_
  refine lv_istore_n (lv' := [(1, .int 0), (0, .int i0)]) hx hb dX6_many_1 rfl hl (by decide) rfl (fun ls hl => ?_)
  refine lv_iload_n hx hb dX6_many_2 rfl (lv_at hl 1 rfl) ?_
  refine lv_istore_n (lv' := [(2, .int i0), (1, .int 0), (0, .int i0)]) hx hb dX6_many_3 rfl hl (by decide) rfl (fun ls hl => ?_)
  obtain ⟨o10, h12, h13⟩ := ob1 h0
  clear h0
  have kont7 : ∀ (H : Heap) (locs : List Loc) (ls : Array Slot), Wd d A s.heap ([]) H locs → lv_has ls 3 [(1, .int o10)] → W p l e (rmo 0 0) s m args below meth c H locs 0 0 Q (F0 m 20 ls []) := by
    intro H locs ls hw hl
    clear h12
    refine lv_iload_n hx hb dX6_many_20 rfl (lv_at hl 0 rfl) ?_
    obtain rfl := inj1 h13
    exact hret _ _ _ _ hw dX6_many_21
  clear h13
  have loop9 : ∀ (n : Nat) (v5 : Int32) (v6 : Int32) (H : Heap) (locs : List Loc) (ls : Array Slot), Wd d A s.heap ([]) H locs → lv_has ls 3 [(1, .int v5), (2, .int v6)] → fX6_many_L4 n v5 v6 = some (o10) → W p l e (rmo 0 0) s m args below meth c H locs 0 0 Q (F0 m 4 ls []) := by
    intro n
    induction n with
    | zero =>
      intro v5 v6 H locs ls hw hl h14
      rw [fX6_many_L4] at h14
      cases h14
    | succ n ih8 =>
      intro v5 v6 H locs ls hw hl h15
      rw [fX6_many_L4] at h15
      refine lv_iload_n hx hb dX6_many_4 rfl (lv_at hl 1 rfl) ?_
      refine lv_if_eq (tgt := 20) hx hb dX6_many_5 (by decide) (fun c11 => ?_) (fun c11 => ?_)
      · rw [if_pos c11] at h15
        obtain rfl := inj1 h15
        exact kont7 _ _ _ hw (lv_sub hl [0] rfl)
      · rw [if_neg c11] at h15
        refine lv_iinc (v := (v5 + 1)) (lv' := [(1, .int (v5 + 1)), (2, .int v6)]) hx hb dX6_many_8 hl (k := 0) rfl rfl (by decide) rfl (fun ls hl => ?_)
        refine lv_iload_n hx hb dX6_many_11 rfl (lv_at hl 1 rfl) ?_
        refine lv_iload_n hx hb dX6_many_12 rfl (lv_at hl 1 rfl) ?_
        refine lv_iconst (v := 1) hx hb dX6_many_13 (by decide) ?_
        refine lv_isub hx hb dX6_many_14 ?_
        refine lv_iand hx hb dX6_many_15 ?_
        refine lv_istore_n (lv' := [(2, .int (v6 &&& (v6 - 1))), (1, .int (v5 + 1))]) hx hb dX6_many_16 rfl hl (by decide) rfl (fun ls hl => ?_)
        refine lv_goto (tgt := 4) hx hb dX6_many_17 (by decide) ?_
        exact ih8 (v5 + 1) (v6 &&& (v6 - 1)) _ _ _ hw (lv_sub hl [1, 0] rfl) h15
  exact loop9 fl 0 i0 _ _ _ hw (lv_sub hl [1, 0] rfl) h12
theorem cal_X6_personComes : CalV yX6_personComes cX6_personComes 6 none RX6 3 := ⟨t_799, t_798, t_3, t_43, by decide +kernel⟩
set_option maxHeartbeats 4000000 in
set_option maxRecDepth 100000 in
theorem cX6_personComes_ok (l : Launch) (d : va_G) (cy : Nat → ClassId) (m0 m1 m2 m3 m4 m5 m6 m7 m8 m9 m10 : Nat) (m_now : Nat → Int32) (m_tape : Nat → Int32) (m_typed : Int32) (m_place : Int32) (m_isFault : Int32) (m_readWet : Int32) (m_readHarvest : Int32) (m_read : Nat → Int32) (m_undone : Nat → Int32) (m_undos : Int32) (m_bestGain : Int32) (m_aside : Nat → Int32) (m_kept : Nat → Int32) (m_keptUndos : Int32) (m_isKept : Int32) (m_lanes : Nat → Int32) (m_sizes : Nat → Int32) (m_items : Nat → Int64) (m_moved : Nat → Int64) (i1 : Int32) (i2 : Int32) (i3 : Int32) (m_now_r : Nat → Int32) (m_undos_r : Int32) (h0 : fX6_personComes m_now i1 i2 i3 = some (m_now_r, m_undos_r)) : CV l yX6_personComes cX6_personComes 6 none 0 0 d cy [.ref m0, .int i1, .int i2, .int i3] (wM cy m0 m1 m2 m3 m4 m5 m6 m7 m8 m9 m10 m_now m_tape m_typed m_place m_isFault m_readWet m_readHarvest m_read m_undone m_undos m_bestGain m_aside m_kept m_keptUndos m_isKept m_lanes m_sizes m_items m_moved) (wM cy m0 m1 m2 m3 m4 m5 m6 m7 m8 m9 m10 m_now_r m_tape m_typed m_place m_isFault m_readWet m_readHarvest m_read m_undone m_undos_r m_bestGain m_aside m_kept m_keptUndos m_isKept m_lanes m_sizes m_items m_moved) := by
  refine CV.of (by decide) (Nat.le_of_ble_eq_true rfl) ?_
  intro p e s m args below meth c A ls Q F hret hw hl
  have hx := F.1
  have hb := F.2.1
  have hl : lv_has ls 6 [(0, .ref m0), (1, .int i1), (2, .int i2), (3, .int i3)] := hl
  rw [fX6_personComes] at h0
  refine lv_iconst (v := 5) hx hb dX6_personComes_0 (by decide) ?_
  refine lv_iconst (v := 3) hx hb dX6_personComes_1 (by decide) ?_
  refine lv_aload_n hx hb dX6_personComes_2 rfl (lv_at hl 0 rfl) ?_
  refine g_get F inG6 hw 0 rfl rfl 0 (by decide) t_730 (fun _ h9 => h9) rfl dX6_personComes_3 ?_
  refine lv_iconst (v := 0) hx hb dX6_personComes_6 (by decide) ?_
  obtain ⟨j1, k2, h32⟩ := ob1 h0
  clear h0
  refine g_iald F hw 1 rfl k2 dX6_personComes_7 ?_
  refine lv_imul hx hb dX6_personComes_8 ?_
  refine lv_iadd hx hb dX6_personComes_9 ?_
  refine lv_istore (lv' := [(4, .int (5 + (3 * (m_now j1)))), (0, .ref m0), (1, .int i1), (2, .int i2), (3, .int i3)]) hx hb dX6_personComes_10 hl (by decide) rfl (fun ls hl => ?_)
  refine lv_aload_n hx hb dX6_personComes_12 rfl (lv_at hl 1 rfl) ?_
  refine g_get F inG6 hw 0 rfl rfl 0 (by decide) t_730 (fun _ h9 => h9) rfl dX6_personComes_13 ?_
  refine lv_iload hx hb dX6_personComes_16 (lv_at hl 0 rfl) ?_
  refine lv_iload_n hx hb dX6_personComes_18 rfl (lv_at hl 2 rfl) ?_
  obtain ⟨j3, k4, h33⟩ := ob1 h32
  clear h32
  refine g_iast F hw 1 rfl k4 dX6_personComes_19 (w' := wM cy m0 m1 m2 m3 m4 m5 m6 m7 m8 m9 m10 (upd m_now j3 i1) m_tape m_typed m_place m_isFault m_readWet m_readHarvest m_read m_undone m_undos m_bestGain m_aside m_kept m_keptUndos m_isKept m_lanes m_sizes m_items m_moved) rfl (fun H locs hw => ?_)
  refine lv_aload_n hx hb dX6_personComes_20 rfl (lv_at hl 1 rfl) ?_
  refine g_get F inG6 hw 0 rfl rfl 0 (by decide) t_730 (fun _ h9 => h9) rfl dX6_personComes_21 ?_
  refine lv_iload hx hb dX6_personComes_24 (lv_at hl 0 rfl) ?_
  refine lv_iconst (v := 1) hx hb dX6_personComes_26 (by decide) ?_
  refine lv_iadd hx hb dX6_personComes_27 ?_
  refine lv_iload_n hx hb dX6_personComes_28 rfl (lv_at hl 3 rfl) ?_
  obtain ⟨j5, k6, h34⟩ := ob1 h33
  clear h33
  refine g_iast F hw 1 rfl k6 dX6_personComes_29 (w' := wM cy m0 m1 m2 m3 m4 m5 m6 m7 m8 m9 m10 (upd (upd m_now j3 i1) j5 i2) m_tape m_typed m_place m_isFault m_readWet m_readHarvest m_read m_undone m_undos m_bestGain m_aside m_kept m_keptUndos m_isKept m_lanes m_sizes m_items m_moved) rfl (fun H locs hw => ?_)
  refine lv_aload_n hx hb dX6_personComes_30 rfl (lv_at hl 1 rfl) ?_
  refine g_get F inG6 hw 0 rfl rfl 0 (by decide) t_730 (fun _ h9 => h9) rfl dX6_personComes_31 ?_
  refine lv_iload hx hb dX6_personComes_34 (lv_at hl 0 rfl) ?_
  refine lv_iconst (v := 2) hx hb dX6_personComes_36 (by decide) ?_
  refine lv_iadd hx hb dX6_personComes_37 ?_
  refine lv_iload_n hx hb dX6_personComes_38 rfl (lv_at hl 4 rfl) ?_
  obtain ⟨j7, k8, h35⟩ := ob1 h34
  clear h34
  refine g_iast F hw 1 rfl k8 dX6_personComes_39 (w' := wM cy m0 m1 m2 m3 m4 m5 m6 m7 m8 m9 m10 (upd (upd (upd m_now j3 i1) j5 i2) j7 i3) m_tape m_typed m_place m_isFault m_readWet m_readHarvest m_read m_undone m_undos m_bestGain m_aside m_kept m_keptUndos m_isKept m_lanes m_sizes m_items m_moved) rfl (fun H locs hw => ?_)
  refine lv_iconst (v := 0) hx hb dX6_personComes_40 (by decide) ?_
  refine lv_istore (lv' := [(5, .int 0), (4, .int (5 + (3 * (m_now j1)))), (0, .ref m0), (1, .int i1), (2, .int i2), (3, .int i3)]) hx hb dX6_personComes_41 hl (by decide) rfl (fun ls hl => ?_)
  obtain ⟨q26, h36, h37⟩ := ob1 h35
  clear h35
  have kont23 : ∀ (H : Heap) (locs : List Loc) (ls : Array Slot), Wd d A s.heap (wM cy m0 m1 m2 m3 m4 m5 m6 m7 m8 m9 m10 q26 m_tape m_typed m_place m_isFault m_readWet m_readHarvest m_read m_undone m_undos m_bestGain m_aside m_kept m_keptUndos m_isKept m_lanes m_sizes m_items m_moved) H locs → lv_has ls 6 [(0, .ref m0)] → W p l e (rmo 0 0) s m args below meth c H locs 0 0 Q (F0 m 77 ls []) := by
    intro H locs ls hw hl
    clear h36
    refine lv_aload_n hx hb dX6_personComes_77 rfl (lv_at hl 0 rfl) ?_
    refine g_get F inG6 hw 0 rfl rfl 0 (by decide) t_730 (fun _ h9 => h9) rfl dX6_personComes_78 ?_
    refine lv_iconst (v := 0) hx hb dX6_personComes_81 (by decide) ?_
    refine lv_dup2_11 hx hb dX6_personComes_82 rfl rfl ?_
    refine g_iald F hw 1 rfl k2 dX6_personComes_83 ?_
    refine lv_iconst (v := 1) hx hb dX6_personComes_84 (by decide) ?_
    refine lv_iadd hx hb dX6_personComes_85 ?_
    refine g_iast F hw 1 rfl k2 dX6_personComes_86 (w' := wM cy m0 m1 m2 m3 m4 m5 m6 m7 m8 m9 m10 (upd q26 j1 ((q26 j1) + 1)) m_tape m_typed m_place m_isFault m_readWet m_readHarvest m_read m_undone m_undos m_bestGain m_aside m_kept m_keptUndos m_isKept m_lanes m_sizes m_items m_moved) rfl (fun H locs hw => ?_)
    refine lv_aload_n hx hb dX6_personComes_87 rfl (lv_at hl 0 rfl) ?_
    refine lv_iconst (v := 0) hx hb dX6_personComes_88 (by decide) ?_
    refine g_put F inG6 tyX6 tyX6_ok nmX6 hw 0 rfl rfl 9 (by decide) t_739 (fun _ h9 => h9) rfl (ty := .int) (by decide +kernel) rfl rfl (Nat.le_of_ble_eq_true rfl) dX6_personComes_89 (w' := wM cy m0 m1 m2 m3 m4 m5 m6 m7 m8 m9 m10 (upd q26 j1 ((q26 j1) + 1)) m_tape m_typed m_place m_isFault m_readWet m_readHarvest m_read m_undone 0 m_bestGain m_aside m_kept m_keptUndos m_isKept m_lanes m_sizes m_items m_moved) rfl (fun H locs hw => ?_)
    obtain ⟨rfl, rfl⟩ := inj2 h37
    exact hret _ _ _ _ hw dX6_personComes_92
  clear h37
  have loop25 : ∀ (n : Nat) (v21 : Int32) (g22 : Nat → Int32) (H : Heap) (locs : List Loc) (ls : Array Slot), Wd d A s.heap (wM cy m0 m1 m2 m3 m4 m5 m6 m7 m8 m9 m10 g22 m_tape m_typed m_place m_isFault m_readWet m_readHarvest m_read m_undone m_undos m_bestGain m_aside m_kept m_keptUndos m_isKept m_lanes m_sizes m_items m_moved) H locs → lv_has ls 6 [(0, .ref m0), (5, .int v21)] → fX6_personComes_L43 n v21 g22 = some (q26) → W p l e (rmo 0 0) s m args below meth c H locs 0 0 Q (F0 m 43 ls []) := by
    intro n
    induction n with
    | zero =>
      intro v21 g22 H locs ls hw hl h38
      rw [fX6_personComes_L43] at h38
      cases h38
    | succ n ih24 =>
      intro v21 g22 H locs ls hw hl h39
      rw [fX6_personComes_L43] at h39
      refine lv_iload hx hb dX6_personComes_43 (lv_at hl 1 rfl) ?_
      refine lv_bipush (v := 12) hx hb dX6_personComes_45 (by decide) ?_
      refine lv_icmp_ge (tgt := 77) hx hb dX6_personComes_47 (by decide) (fun c27 => ?_) (fun c27 => ?_)
      · rw [if_pos c27] at h39
        obtain rfl := inj1 h39
        exact kont23 _ _ _ hw (lv_sub hl [0] rfl)
      · rw [if_neg c27] at h39
        refine lv_aload_n hx hb dX6_personComes_50 rfl (lv_at hl 0 rfl) ?_
        refine g_get F inG6 hw 0 rfl rfl 0 (by decide) t_730 (fun _ h9 => h9) rfl dX6_personComes_51 ?_
        refine lv_bipush (v := 23) hx hb dX6_personComes_54 (by decide) ?_
        refine lv_bipush (v := 12) hx hb dX6_personComes_56 (by decide) ?_
        refine lv_aload_n hx hb dX6_personComes_58 rfl (lv_at hl 0 rfl) ?_
        refine g_get F inG6 hw 0 rfl rfl 0 (by decide) t_730 (fun _ h9 => h9) rfl dX6_personComes_59 ?_
        refine lv_iconst (v := 0) hx hb dX6_personComes_62 (by decide) ?_
        obtain ⟨j28, k29, h40⟩ := ob1 h39
        clear h39
        refine g_iald F hw 1 rfl k29 dX6_personComes_63 ?_
        refine lv_imul hx hb dX6_personComes_64 ?_
        refine lv_iadd hx hb dX6_personComes_65 ?_
        refine lv_iload hx hb dX6_personComes_66 (lv_at hl 1 rfl) ?_
        refine lv_iadd hx hb dX6_personComes_68 ?_
        refine lv_iconst (v := 1) hx hb dX6_personComes_69 (by decide) ?_
        obtain ⟨j30, k31, h41⟩ := ob1 h40
        clear h40
        refine g_iast F hw 1 rfl k31 dX6_personComes_70 (w' := wM cy m0 m1 m2 m3 m4 m5 m6 m7 m8 m9 m10 (upd g22 j30 1) m_tape m_typed m_place m_isFault m_readWet m_readHarvest m_read m_undone m_undos m_bestGain m_aside m_kept m_keptUndos m_isKept m_lanes m_sizes m_items m_moved) rfl (fun H locs hw => ?_)
        refine lv_iinc (v := (v21 + 1)) (lv' := [(5, .int (v21 + 1)), (0, .ref m0)]) hx hb dX6_personComes_71 hl (k := 1) rfl rfl (by decide) rfl (fun ls hl => ?_)
        refine lv_goto (tgt := 43) hx hb dX6_personComes_74 (by decide) ?_
        exact ih24 (v21 + 1) (upd g22 j30 1) _ _ _ hw (lv_sub hl [1, 0] rfl) h41
  exact loop25 fl 0 (upd (upd (upd m_now j3 i1) j5 i2) j7 i3) _ _ _ hw (lv_sub hl [2, 0] rfl) h36
theorem cal_X6_person : CalV yX6_person cX6_person 2 (some .int) RX6 1 := ⟨t_791, t_789, t_790, t_43, by decide +kernel⟩
set_option maxHeartbeats 4000000 in
set_option maxRecDepth 100000 in
theorem cX6_person_ok (l : Launch) (d : va_G) (cy : Nat → ClassId) (m0 m1 m2 m3 m4 m5 m6 m7 m8 m9 m10 : Nat) (m_now : Nat → Int32) (m_tape : Nat → Int32) (m_typed : Int32) (m_place : Int32) (m_isFault : Int32) (m_readWet : Int32) (m_readHarvest : Int32) (m_read : Nat → Int32) (m_undone : Nat → Int32) (m_undos : Int32) (m_bestGain : Int32) (m_aside : Nat → Int32) (m_kept : Nat → Int32) (m_keptUndos : Int32) (m_isKept : Int32) (m_lanes : Nat → Int32) (m_sizes : Nat → Int32) (m_items : Nat → Int64) (m_moved : Nat → Int64) (i1 : Int32) (r : Int32) (m_now_r : Nat → Int32) (m_undos_r : Int32) (h0 : fX6_person m_now m_undos i1 = some (r, m_now_r, m_undos_r)) : CI l yX6_person cX6_person 2 (some .int) 1 25 d cy [.ref m0, .int i1] (wM cy m0 m1 m2 m3 m4 m5 m6 m7 m8 m9 m10 m_now m_tape m_typed m_place m_isFault m_readWet m_readHarvest m_read m_undone m_undos m_bestGain m_aside m_kept m_keptUndos m_isKept m_lanes m_sizes m_items m_moved) (wM cy m0 m1 m2 m3 m4 m5 m6 m7 m8 m9 m10 m_now_r m_tape m_typed m_place m_isFault m_readWet m_readHarvest m_read m_undone m_undos_r m_bestGain m_aside m_kept m_keptUndos m_isKept m_lanes m_sizes m_items m_moved) r := by
  refine CI.of (by decide) (Nat.le_of_ble_eq_true rfl) ?_
  intro p e s m args below meth c A ls Q F hret hw hl
  have hx := F.1
  have hb := F.2.1
  have hl : lv_has ls 2 [(0, .ref m0), (1, .int i1)] := hl
  rw [fX6_person] at h0
  refine lv_iload_n hx hb dX6_person_0 rfl (lv_at hl 1 rfl) ?_
  refine lv_i2l hx hb dX6_person_1 rfl ?_
  refine lv_lconst (v := 0) hx hb dX6_person_2 (by decide) ?_
  refine lv_ldc2 (v := 4) hx hb F.2.2.2.2.2.1 (F.2.2.2.2.2.2.1 _ t_792) dX6_person_3 ?_
  obtain ⟨r1, k2, h10⟩ := ob1 h0
  clear h0
  refine g_si F (cX6_in_ok l d cy (Int32.toInt64 i1) 0 4 r1 k2) cal_X6_in t_793 rfl ⟨by decide, by decide⟩ hw (w' := wM cy m0 m1 m2 m3 m4 m5 m6 m7 m8 m9 m10 m_now m_tape m_typed m_place m_isFault m_readWet m_readHarvest m_read m_undone m_undos m_bestGain m_aside m_kept m_keptUndos m_isKept m_lanes m_sizes m_items m_moved) Cut.nil hl.1 (Nat.le_of_ble_eq_true rfl) rfl dX6_person_6 (fun H locs hw => ?_)
  refine lv_if_ne (tgt := 14) hx hb dX6_person_9 (by decide) (fun c3 => ?_) (fun c3 => ?_)
  · rw [if_neg c3] at h10
    refine lv_aload_n hx hb dX6_person_14 rfl (lv_at hl 0 rfl) ?_
    refine g_get F inG6 hw 0 rfl rfl 0 (by decide) t_730 (fun _ h9 => h9) rfl dX6_person_15 ?_
    refine lv_iconst (v := 0) hx hb dX6_person_18 (by decide) ?_
    obtain ⟨j4, k5, h11⟩ := ob1 h10
    clear h10
    refine g_iald F hw 1 rfl k5 dX6_person_19 ?_
    refine lv_bipush (v := 6) hx hb dX6_person_20 (by decide) ?_
    refine lv_icmp_ne (tgt := 28) hx hb dX6_person_22 (by decide) (fun c6 => ?_) (fun c6 => ?_)
    · rw [if_neg c6] at h11
      refine lv_aload_n hx hb dX6_person_28 rfl (lv_at hl 0 rfl) ?_
      refine lv_iload_n hx hb dX6_person_29 rfl (lv_at hl 1 rfl) ?_
      refine lv_aload_n hx hb dX6_person_30 rfl (lv_at hl 0 rfl) ?_
      refine g_get F inG6 hw 0 rfl rfl 0 (by decide) t_730 (fun _ h9 => h9) rfl dX6_person_31 ?_
      refine lv_iconst (v := 0) hx hb dX6_person_34 (by decide) ?_
      refine g_iald F hw 1 rfl k5 dX6_person_35 ?_
      refine lv_bipush (v := 50) hx hb dX6_person_36 (by decide) ?_
      obtain ⟨f7, x8, k9, h12⟩ := ob2 h11
      clear h11
      refine g_vv F (cX6_personComes_ok l d cy m0 m1 m2 m3 m4 m5 m6 m7 m8 m9 m10 m_now m_tape m_typed m_place m_isFault m_readWet m_readHarvest m_read m_undone m_undos m_bestGain m_aside m_kept m_keptUndos m_isKept m_lanes m_sizes m_items m_moved i1 (m_now j4) 50 f7 x8 k9) cal_X6_personComes t_796 rfl ⟨by decide, by decide⟩ hw (w' := wM cy m0 m1 m2 m3 m4 m5 m6 m7 m8 m9 m10 f7 m_tape m_typed m_place m_isFault m_readWet m_readHarvest m_read m_undone x8 m_bestGain m_aside m_kept m_keptUndos m_isKept m_lanes m_sizes m_items m_moved) Cut.all 0 6 rfl rfl hl.1 (Nat.le_of_ble_eq_true rfl) rfl dX6_person_38 (fun H locs hw => ?_)
      refine lv_aload_n hx hb dX6_person_41 rfl (lv_at hl 0 rfl) ?_
      refine g_get F inG6 hw 0 rfl rfl 0 (by decide) t_730 (fun _ h9 => h9) rfl dX6_person_42 ?_
      refine lv_iconst (v := 0) hx hb dX6_person_45 (by decide) ?_
      refine g_iald F hw 1 rfl k5 dX6_person_46 ?_
      refine lv_iconst (v := 1) hx hb dX6_person_47 (by decide) ?_
      refine lv_isub hx hb dX6_person_48 ?_
      obtain ⟨rfl, rfl, rfl⟩ := inj3 h12
      exact hret _ _ _ _ hw dX6_person_49
    · rw [if_pos c6] at h11
      refine lv_bipush (v := (-3)) hx hb dX6_person_25 (by decide) ?_
      obtain ⟨rfl, rfl, rfl⟩ := inj3 h11
      exact hret _ _ _ _ hw dX6_person_27
  · rw [if_pos c3] at h10
    refine lv_iconst (v := (-1)) hx hb dX6_person_12 (by decide) ?_
    obtain ⟨rfl, rfl, rfl⟩ := inj3 h10
    exact hret _ _ _ _ hw dX6_person_13
theorem cal_X6_love : CalV yX6_love cX6_love 4 (some .int) RX6 2 := ⟨t_803, t_801, t_802, t_43, by decide +kernel⟩
set_option maxHeartbeats 4000000 in
set_option maxRecDepth 100000 in
theorem cX6_love_ok (l : Launch) (d : va_G) (cy : Nat → ClassId) (m0 m1 m2 m3 m4 m5 m6 m7 m8 m9 m10 : Nat) (m_now : Nat → Int32) (m_tape : Nat → Int32) (m_typed : Int32) (m_place : Int32) (m_isFault : Int32) (m_readWet : Int32) (m_readHarvest : Int32) (m_read : Nat → Int32) (m_undone : Nat → Int32) (m_undos : Int32) (m_bestGain : Int32) (m_aside : Nat → Int32) (m_kept : Nat → Int32) (m_keptUndos : Int32) (m_isKept : Int32) (m_lanes : Nat → Int32) (m_sizes : Nat → Int32) (m_items : Nat → Int64) (m_moved : Nat → Int64) (i1 : Int32) (i2 : Int32) (r : Int32) (m_now_r : Nat → Int32) (h0 : fX6_love m_now i1 i2 = some (r, m_now_r)) : CI l yX6_love cX6_love 4 (some .int) 2 46 d cy [.ref m0, .int i1, .int i2] (wM cy m0 m1 m2 m3 m4 m5 m6 m7 m8 m9 m10 m_now m_tape m_typed m_place m_isFault m_readWet m_readHarvest m_read m_undone m_undos m_bestGain m_aside m_kept m_keptUndos m_isKept m_lanes m_sizes m_items m_moved) (wM cy m0 m1 m2 m3 m4 m5 m6 m7 m8 m9 m10 m_now_r m_tape m_typed m_place m_isFault m_readWet m_readHarvest m_read m_undone m_undos m_bestGain m_aside m_kept m_keptUndos m_isKept m_lanes m_sizes m_items m_moved) r := by
  refine CI.of (by decide) (Nat.le_of_ble_eq_true rfl) ?_
  intro p e s m args below meth c A ls Q F hret hw hl
  have hx := F.1
  have hb := F.2.1
  have hl : lv_has ls 4 [(0, .ref m0), (1, .int i1), (2, .int i2)] := hl
  rw [fX6_love] at h0
  refine lv_aload_n hx hb dX6_love_0 rfl (lv_at hl 0 rfl) ?_
  refine lv_iload_n hx hb dX6_love_1 rfl (lv_at hl 1 rfl) ?_
  obtain ⟨r1, k2, h11⟩ := ob1 h0
  clear h0
  refine g_vi F (cX6_isPerson_ok l d cy m0 m1 m2 m3 m4 m5 m6 m7 m8 m9 m10 m_now m_tape m_typed m_place m_isFault m_readWet m_readHarvest m_read m_undone m_undos m_bestGain m_aside m_kept m_keptUndos m_isKept m_lanes m_sizes m_items m_moved i1 r1 k2) cal_X6_isPerson t_804 rfl ⟨by decide, by decide⟩ hw (w' := wM cy m0 m1 m2 m3 m4 m5 m6 m7 m8 m9 m10 m_now m_tape m_typed m_place m_isFault m_readWet m_readHarvest m_read m_undone m_undos m_bestGain m_aside m_kept m_keptUndos m_isKept m_lanes m_sizes m_items m_moved) Cut.all 0 6 rfl rfl hl.1 (Nat.le_of_ble_eq_true rfl) rfl dX6_love_2 (fun H locs hw => ?_)
  refine lv_if_eq (tgt := 16) hx hb dX6_love_5 (by decide) (fun c3 => ?_) (fun c3 => ?_)
  · rw [if_pos c3] at h11
    refine lv_iconst (v := (-1)) hx hb dX6_love_16 (by decide) ?_
    obtain ⟨rfl, rfl⟩ := inj2 h11
    exact hret _ _ _ _ hw dX6_love_17
  · rw [if_neg c3] at h11
    refine lv_aload_n hx hb dX6_love_8 rfl (lv_at hl 0 rfl) ?_
    refine lv_iload_n hx hb dX6_love_9 rfl (lv_at hl 2 rfl) ?_
    obtain ⟨r4, k5, h12⟩ := ob1 h11
    clear h11
    refine g_vi F (cX6_isPerson_ok l d cy m0 m1 m2 m3 m4 m5 m6 m7 m8 m9 m10 m_now m_tape m_typed m_place m_isFault m_readWet m_readHarvest m_read m_undone m_undos m_bestGain m_aside m_kept m_keptUndos m_isKept m_lanes m_sizes m_items m_moved i2 r4 k5) cal_X6_isPerson t_804 rfl ⟨by decide, by decide⟩ hw (w' := wM cy m0 m1 m2 m3 m4 m5 m6 m7 m8 m9 m10 m_now m_tape m_typed m_place m_isFault m_readWet m_readHarvest m_read m_undone m_undos m_bestGain m_aside m_kept m_keptUndos m_isKept m_lanes m_sizes m_items m_moved) Cut.all 0 6 rfl rfl hl.1 (Nat.le_of_ble_eq_true rfl) rfl dX6_love_10 (fun H locs hw => ?_)
    refine lv_if_ne (tgt := 18) hx hb dX6_love_13 (by decide) (fun c6 => ?_) (fun c6 => ?_)
    · rw [if_neg c6] at h12
      refine lv_aload_n hx hb dX6_love_18 rfl (lv_at hl 0 rfl) ?_
      refine lv_iload_n hx hb dX6_love_19 rfl (lv_at hl 1 rfl) ?_
      refine lv_iconst (v := 1) hx hb dX6_love_20 (by decide) ?_
      obtain ⟨r7, k8, h13⟩ := ob1 h12
      clear h12
      refine g_vi F (cX6_ofPerson_ok l d cy m0 m1 m2 m3 m4 m5 m6 m7 m8 m9 m10 m_now m_tape m_typed m_place m_isFault m_readWet m_readHarvest m_read m_undone m_undos m_bestGain m_aside m_kept m_keptUndos m_isKept m_lanes m_sizes m_items m_moved i1 1 r7 k8) cal_X6_ofPerson t_808 rfl ⟨by decide, by decide⟩ hw (w' := wM cy m0 m1 m2 m3 m4 m5 m6 m7 m8 m9 m10 m_now m_tape m_typed m_place m_isFault m_readWet m_readHarvest m_read m_undone m_undos m_bestGain m_aside m_kept m_keptUndos m_isKept m_lanes m_sizes m_items m_moved) Cut.all 0 6 rfl rfl hl.1 (Nat.le_of_ble_eq_true rfl) rfl dX6_love_21 (fun H locs hw => ?_)
      refine lv_istore_n (lv' := [(3, .int r7), (0, .ref m0), (1, .int i1), (2, .int i2)]) hx hb dX6_love_24 rfl hl (by decide) rfl (fun ls hl => ?_)
      refine lv_aload_n hx hb dX6_love_25 rfl (lv_at hl 1 rfl) ?_
      refine g_get F inG6 hw 0 rfl rfl 0 (by decide) t_730 (fun _ h9 => h9) rfl dX6_love_26 ?_
      refine lv_iconst (v := 5) hx hb dX6_love_29 (by decide) ?_
      refine lv_iconst (v := 3) hx hb dX6_love_30 (by decide) ?_
      refine lv_iload_n hx hb dX6_love_31 rfl (lv_at hl 2 rfl) ?_
      refine lv_imul hx hb dX6_love_32 ?_
      refine lv_iadd hx hb dX6_love_33 ?_
      refine lv_iconst (v := 1) hx hb dX6_love_34 (by decide) ?_
      refine lv_iadd hx hb dX6_love_35 ?_
      refine lv_iload_n hx hb dX6_love_36 rfl (lv_at hl 3 rfl) ?_
      obtain ⟨j9, k10, h14⟩ := ob1 h13
      clear h13
      refine g_iast F hw 1 rfl k10 dX6_love_37 (w' := wM cy m0 m1 m2 m3 m4 m5 m6 m7 m8 m9 m10 (upd m_now j9 i2) m_tape m_typed m_place m_isFault m_readWet m_readHarvest m_read m_undone m_undos m_bestGain m_aside m_kept m_keptUndos m_isKept m_lanes m_sizes m_items m_moved) rfl (fun H locs hw => ?_)
      refine lv_iload_n hx hb dX6_love_38 rfl (lv_at hl 0 rfl) ?_
      obtain ⟨rfl, rfl⟩ := inj2 h14
      exact hret _ _ _ _ hw dX6_love_39
    · rw [if_pos c6] at h12
      refine lv_iconst (v := (-1)) hx hb dX6_love_16 (by decide) ?_
      obtain ⟨rfl, rfl⟩ := inj2 h12
      exact hret _ _ _ _ hw dX6_love_17
theorem cal_X6_least : CalV yX6_least cX6_least 3 (some .int) RX6 1 := ⟨t_815, t_813, t_814, t_43, by decide +kernel⟩
set_option maxHeartbeats 4000000 in
set_option maxRecDepth 100000 in
theorem cX6_least_ok (l : Launch) (d : va_G) (cy : Nat → ClassId) (m0 m1 m2 m3 m4 m5 m6 m7 m8 m9 m10 : Nat) (m_now : Nat → Int32) (m_tape : Nat → Int32) (m_typed : Int32) (m_place : Int32) (m_isFault : Int32) (m_readWet : Int32) (m_readHarvest : Int32) (m_read : Nat → Int32) (m_undone : Nat → Int32) (m_undos : Int32) (m_bestGain : Int32) (m_aside : Nat → Int32) (m_kept : Nat → Int32) (m_keptUndos : Int32) (m_isKept : Int32) (m_lanes : Nat → Int32) (m_sizes : Nat → Int32) (m_items : Nat → Int64) (m_moved : Nat → Int64) (i1 : Int32) (r : Int32) (m_now_r : Nat → Int32) (h0 : fX6_least m_now i1 = some (r, m_now_r)) : CI l yX6_least cX6_least 3 (some .int) 1 25 d cy [.ref m0, .int i1] (wM cy m0 m1 m2 m3 m4 m5 m6 m7 m8 m9 m10 m_now m_tape m_typed m_place m_isFault m_readWet m_readHarvest m_read m_undone m_undos m_bestGain m_aside m_kept m_keptUndos m_isKept m_lanes m_sizes m_items m_moved) (wM cy m0 m1 m2 m3 m4 m5 m6 m7 m8 m9 m10 m_now_r m_tape m_typed m_place m_isFault m_readWet m_readHarvest m_read m_undone m_undos m_bestGain m_aside m_kept m_keptUndos m_isKept m_lanes m_sizes m_items m_moved) r := by
  refine CI.of (by decide) (Nat.le_of_ble_eq_true rfl) ?_
  intro p e s m args below meth c A ls Q F hret hw hl
  have hx := F.1
  have hb := F.2.1
  have hl : lv_has ls 3 [(0, .ref m0), (1, .int i1)] := hl
  rw [fX6_least] at h0
  refine lv_iload_n hx hb dX6_least_0 rfl (lv_at hl 1 rfl) ?_
  refine lv_i2l hx hb dX6_least_1 rfl ?_
  refine lv_lconst (v := 0) hx hb dX6_least_2 (by decide) ?_
  refine lv_ldc2 (v := 12) hx hb F.2.2.2.2.2.1 (F.2.2.2.2.2.2.1 _ t_816) dX6_least_3 ?_
  obtain ⟨r1, k2, h6⟩ := ob1 h0
  clear h0
  refine g_si F (cX6_in_ok l d cy (Int32.toInt64 i1) 0 12 r1 k2) cal_X6_in t_793 rfl ⟨by decide, by decide⟩ hw (w' := wM cy m0 m1 m2 m3 m4 m5 m6 m7 m8 m9 m10 m_now m_tape m_typed m_place m_isFault m_readWet m_readHarvest m_read m_undone m_undos m_bestGain m_aside m_kept m_keptUndos m_isKept m_lanes m_sizes m_items m_moved) Cut.nil hl.1 (Nat.le_of_ble_eq_true rfl) rfl dX6_least_6 (fun H locs hw => ?_)
  refine lv_if_ne (tgt := 14) hx hb dX6_least_9 (by decide) (fun c3 => ?_) (fun c3 => ?_)
  · rw [if_neg c3] at h6
    refine lv_aload_n hx hb dX6_least_14 rfl (lv_at hl 0 rfl) ?_
    refine g_get F inG6 hw 0 rfl rfl 0 (by decide) t_730 (fun _ h9 => h9) rfl dX6_least_15 ?_
    refine lv_iconst (v := 1) hx hb dX6_least_18 (by decide) ?_
    obtain ⟨j4, k5, h7⟩ := ob1 h6
    clear h6
    refine g_iald F hw 1 rfl k5 dX6_least_19 ?_
    refine lv_istore_n (lv' := [(2, .int (m_now j4)), (0, .ref m0), (1, .int i1)]) hx hb dX6_least_20 rfl hl (by decide) rfl (fun ls hl => ?_)
    refine lv_aload_n hx hb dX6_least_21 rfl (lv_at hl 1 rfl) ?_
    refine g_get F inG6 hw 0 rfl rfl 0 (by decide) t_730 (fun _ h9 => h9) rfl dX6_least_22 ?_
    refine lv_iconst (v := 1) hx hb dX6_least_25 (by decide) ?_
    refine lv_iload_n hx hb dX6_least_26 rfl (lv_at hl 2 rfl) ?_
    refine g_iast F hw 1 rfl k5 dX6_least_27 (w' := wM cy m0 m1 m2 m3 m4 m5 m6 m7 m8 m9 m10 (upd m_now j4 i1) m_tape m_typed m_place m_isFault m_readWet m_readHarvest m_read m_undone m_undos m_bestGain m_aside m_kept m_keptUndos m_isKept m_lanes m_sizes m_items m_moved) rfl (fun H locs hw => ?_)
    refine lv_iload_n hx hb dX6_least_28 rfl (lv_at hl 0 rfl) ?_
    obtain ⟨rfl, rfl⟩ := inj2 h7
    exact hret _ _ _ _ hw dX6_least_29
  · rw [if_pos c3] at h6
    refine lv_iconst (v := (-1)) hx hb dX6_least_12 (by decide) ?_
    obtain ⟨rfl, rfl⟩ := inj2 h6
    exact hret _ _ _ _ hw dX6_least_13
theorem cal_X6_of : CalV yX6_of cX6_of 3 (some .int) RX6 2 := ⟨t_820, t_818, t_819, t_43, by decide +kernel⟩
set_option maxHeartbeats 4000000 in
set_option maxRecDepth 100000 in
theorem cX6_of_ok (l : Launch) (d : va_G) (cy : Nat → ClassId) (m0 m1 m2 m3 m4 m5 m6 m7 m8 m9 m10 : Nat) (m_now : Nat → Int32) (m_tape : Nat → Int32) (m_typed : Int32) (m_place : Int32) (m_isFault : Int32) (m_readWet : Int32) (m_readHarvest : Int32) (m_read : Nat → Int32) (m_undone : Nat → Int32) (m_undos : Int32) (m_bestGain : Int32) (m_aside : Nat → Int32) (m_kept : Nat → Int32) (m_keptUndos : Int32) (m_isKept : Int32) (m_lanes : Nat → Int32) (m_sizes : Nat → Int32) (m_items : Nat → Int64) (m_moved : Nat → Int64) (i1 : Int32) (i2 : Int32) (r : Int32) (h0 : fX6_of m_now i1 i2 = some (r)) : CI l yX6_of cX6_of 3 (some .int) 5 116 d cy [.ref m0, .int i1, .int i2] (wM cy m0 m1 m2 m3 m4 m5 m6 m7 m8 m9 m10 m_now m_tape m_typed m_place m_isFault m_readWet m_readHarvest m_read m_undone m_undos m_bestGain m_aside m_kept m_keptUndos m_isKept m_lanes m_sizes m_items m_moved) (wM cy m0 m1 m2 m3 m4 m5 m6 m7 m8 m9 m10 m_now m_tape m_typed m_place m_isFault m_readWet m_readHarvest m_read m_undone m_undos m_bestGain m_aside m_kept m_keptUndos m_isKept m_lanes m_sizes m_items m_moved) r := by
  refine CI.of (by decide) (Nat.le_of_ble_eq_true rfl) ?_
  intro p e s m args below meth c A ls Q F hret hw hl
  have hx := F.1
  have hb := F.2.1
  have hl : lv_has ls 3 [(0, .ref m0), (1, .int i1), (2, .int i2)] := hl
  rw [fX6_of] at h0
  refine lv_aload_n hx hb dX6_of_0 rfl (lv_at hl 0 rfl) ?_
  refine lv_iload_n hx hb dX6_of_1 rfl (lv_at hl 1 rfl) ?_
  obtain ⟨r1, k2, h18⟩ := ob1 h0
  clear h0
  refine g_vi F (cX6_isPerson_ok l d cy m0 m1 m2 m3 m4 m5 m6 m7 m8 m9 m10 m_now m_tape m_typed m_place m_isFault m_readWet m_readHarvest m_read m_undone m_undos m_bestGain m_aside m_kept m_keptUndos m_isKept m_lanes m_sizes m_items m_moved i1 r1 k2) cal_X6_isPerson t_804 rfl ⟨by decide, by decide⟩ hw (w' := wM cy m0 m1 m2 m3 m4 m5 m6 m7 m8 m9 m10 m_now m_tape m_typed m_place m_isFault m_readWet m_readHarvest m_read m_undone m_undos m_bestGain m_aside m_kept m_keptUndos m_isKept m_lanes m_sizes m_items m_moved) Cut.all 0 6 rfl rfl hl.1 (Nat.le_of_ble_eq_true rfl) rfl dX6_of_2 (fun H locs hw => ?_)
  refine lv_if_eq (tgt := 20) hx hb dX6_of_5 (by decide) (fun c3 => ?_) (fun c3 => ?_)
  · rw [if_pos c3] at h18
    refine lv_iconst (v := (-1)) hx hb dX6_of_20 (by decide) ?_
    obtain rfl := inj1 h18
    exact hret _ _ _ _ hw dX6_of_21
  · rw [if_neg c3] at h18
    refine lv_iload_n hx hb dX6_of_8 rfl (lv_at hl 2 rfl) ?_
    refine lv_i2l hx hb dX6_of_9 rfl ?_
    refine lv_lconst (v := 0) hx hb dX6_of_10 (by decide) ?_
    refine lv_ldc2 (v := 5) hx hb F.2.2.2.2.2.1 (F.2.2.2.2.2.2.1 _ t_821) dX6_of_11 ?_
    obtain ⟨r4, k5, h19⟩ := ob1 h18
    clear h18
    refine g_si F (cX6_in_ok l d cy (Int32.toInt64 i2) 0 5 r4 k5) cal_X6_in t_793 rfl ⟨by decide, by decide⟩ hw (w' := wM cy m0 m1 m2 m3 m4 m5 m6 m7 m8 m9 m10 m_now m_tape m_typed m_place m_isFault m_readWet m_readHarvest m_read m_undone m_undos m_bestGain m_aside m_kept m_keptUndos m_isKept m_lanes m_sizes m_items m_moved) Cut.nil hl.1 (Nat.le_of_ble_eq_true rfl) rfl dX6_of_14 (fun H locs hw => ?_)
    refine lv_if_ne (tgt := 22) hx hb dX6_of_17 (by decide) (fun c6 => ?_) (fun c6 => ?_)
    · rw [if_neg c6] at h19
      refine lv_iload_n hx hb dX6_of_22 rfl (lv_at hl 2 rfl) ?_
      refine lv_iconst (v := 3) hx hb dX6_of_23 (by decide) ?_
      refine lv_icmp_ge (tgt := 36) hx hb dX6_of_24 (by decide) (fun c7 => ?_) (fun c7 => ?_)
      · rw [if_pos c7] at h19
        refine lv_iload_n hx hb dX6_of_36 rfl (lv_at hl 2 rfl) ?_
        refine lv_iconst (v := 3) hx hb dX6_of_37 (by decide) ?_
        refine lv_icmp_ne (tgt := 49) hx hb dX6_of_38 (by decide) (fun c8 => ?_) (fun c8 => ?_)
        · rw [if_neg c8] at h19
          refine lv_iload_n hx hb dX6_of_49 rfl (lv_at hl 2 rfl) ?_
          refine lv_iconst (v := 4) hx hb dX6_of_50 (by decide) ?_
          refine lv_icmp_ne (tgt := 62) hx hb dX6_of_51 (by decide) (fun c9 => ?_) (fun c9 => ?_)
          · rw [if_neg c9] at h19
            refine lv_aload_n hx hb dX6_of_62 rfl (lv_at hl 0 rfl) ?_
            refine lv_iload_n hx hb dX6_of_63 rfl (lv_at hl 1 rfl) ?_
            obtain ⟨r10, k11, h20⟩ := ob1 h19
            clear h19
            refine g_vi F (cX6_worth_ok l d cy m0 m1 m2 m3 m4 m5 m6 m7 m8 m9 m10 m_now m_tape m_typed m_place m_isFault m_readWet m_readHarvest m_read m_undone m_undos m_bestGain m_aside m_kept m_keptUndos m_isKept m_lanes m_sizes m_items m_moved i1 r10 k11) cal_X6_worth t_838 rfl ⟨by decide, by decide⟩ hw (w' := wM cy m0 m1 m2 m3 m4 m5 m6 m7 m8 m9 m10 m_now m_tape m_typed m_place m_isFault m_readWet m_readHarvest m_read m_undone m_undos m_bestGain m_aside m_kept m_keptUndos m_isKept m_lanes m_sizes m_items m_moved) Cut.all 0 6 rfl rfl hl.1 (Nat.le_of_ble_eq_true rfl) rfl dX6_of_64 (fun H locs hw => ?_)
            obtain rfl := inj1 h20
            exact hret _ _ _ _ hw dX6_of_67
          · rw [if_pos c9] at h19
            refine lv_aload_n hx hb dX6_of_54 rfl (lv_at hl 0 rfl) ?_
            refine lv_iload_n hx hb dX6_of_55 rfl (lv_at hl 1 rfl) ?_
            obtain ⟨r12, k13, h21⟩ := ob1 h19
            clear h19
            refine g_vi F (cX6_manyAll_ok l d cy m0 m1 m2 m3 m4 m5 m6 m7 m8 m9 m10 m_now m_tape m_typed m_place m_isFault m_readWet m_readHarvest m_read m_undone m_undos m_bestGain m_aside m_kept m_keptUndos m_isKept m_lanes m_sizes m_items m_moved i1 r12 k13) cal_X6_manyAll t_834 rfl ⟨by decide, by decide⟩ hw (w' := wM cy m0 m1 m2 m3 m4 m5 m6 m7 m8 m9 m10 m_now m_tape m_typed m_place m_isFault m_readWet m_readHarvest m_read m_undone m_undos m_bestGain m_aside m_kept m_keptUndos m_isKept m_lanes m_sizes m_items m_moved) Cut.all 0 6 rfl rfl hl.1 (Nat.le_of_ble_eq_true rfl) rfl dX6_of_56 (fun H locs hw => ?_)
            refine lv_goto (tgt := 67) hx hb dX6_of_59 (by decide) ?_
            obtain rfl := inj1 h21
            exact hret _ _ _ _ hw dX6_of_67
        · rw [if_pos c8] at h19
          refine lv_aload_n hx hb dX6_of_41 rfl (lv_at hl 0 rfl) ?_
          refine lv_iload_n hx hb dX6_of_42 rfl (lv_at hl 1 rfl) ?_
          obtain ⟨r14, k15, h22⟩ := ob1 h19
          clear h19
          refine g_vi F (cX6_halves_ok l d cy m0 m1 m2 m3 m4 m5 m6 m7 m8 m9 m10 m_now m_tape m_typed m_place m_isFault m_readWet m_readHarvest m_read m_undone m_undos m_bestGain m_aside m_kept m_keptUndos m_isKept m_lanes m_sizes m_items m_moved i1 r14 k15) cal_X6_halves t_822 rfl ⟨by decide, by decide⟩ hw (w' := wM cy m0 m1 m2 m3 m4 m5 m6 m7 m8 m9 m10 m_now m_tape m_typed m_place m_isFault m_readWet m_readHarvest m_read m_undone m_undos m_bestGain m_aside m_kept m_keptUndos m_isKept m_lanes m_sizes m_items m_moved) Cut.all 0 6 rfl rfl hl.1 (Nat.le_of_ble_eq_true rfl) rfl dX6_of_43 (fun H locs hw => ?_)
          refine lv_goto (tgt := 67) hx hb dX6_of_46 (by decide) ?_
          obtain rfl := inj1 h22
          exact hret _ _ _ _ hw dX6_of_67
      · rw [if_neg c7] at h19
        refine lv_aload_n hx hb dX6_of_27 rfl (lv_at hl 0 rfl) ?_
        refine lv_iload_n hx hb dX6_of_28 rfl (lv_at hl 1 rfl) ?_
        refine lv_iload_n hx hb dX6_of_29 rfl (lv_at hl 2 rfl) ?_
        obtain ⟨r16, k17, h23⟩ := ob1 h19
        clear h19
        refine g_vi F (cX6_ofPerson_ok l d cy m0 m1 m2 m3 m4 m5 m6 m7 m8 m9 m10 m_now m_tape m_typed m_place m_isFault m_readWet m_readHarvest m_read m_undone m_undos m_bestGain m_aside m_kept m_keptUndos m_isKept m_lanes m_sizes m_items m_moved i1 i2 r16 k17) cal_X6_ofPerson t_808 rfl ⟨by decide, by decide⟩ hw (w' := wM cy m0 m1 m2 m3 m4 m5 m6 m7 m8 m9 m10 m_now m_tape m_typed m_place m_isFault m_readWet m_readHarvest m_read m_undone m_undos m_bestGain m_aside m_kept m_keptUndos m_isKept m_lanes m_sizes m_items m_moved) Cut.all 0 6 rfl rfl hl.1 (Nat.le_of_ble_eq_true rfl) rfl dX6_of_30 (fun H locs hw => ?_)
        refine lv_goto (tgt := 67) hx hb dX6_of_33 (by decide) ?_
        obtain rfl := inj1 h23
        exact hret _ _ _ _ hw dX6_of_67
    · rw [if_pos c6] at h19
      refine lv_iconst (v := (-1)) hx hb dX6_of_20 (by decide) ?_
      obtain rfl := inj1 h19
      exact hret _ _ _ _ hw dX6_of_21
theorem cal_X6_has : CalV yX6_has cX6_has 4 (some .int) RX6 3 := ⟨t_853, t_851, t_852, t_43, by decide +kernel⟩
set_option maxHeartbeats 4000000 in
set_option maxRecDepth 100000 in
theorem cX6_has_ok (l : Launch) (d : va_G) (cy : Nat → ClassId) (m0 m1 m2 m3 m4 m5 m6 m7 m8 m9 m10 : Nat) (m_now : Nat → Int32) (m_tape : Nat → Int32) (m_typed : Int32) (m_place : Int32) (m_isFault : Int32) (m_readWet : Int32) (m_readHarvest : Int32) (m_read : Nat → Int32) (m_undone : Nat → Int32) (m_undos : Int32) (m_bestGain : Int32) (m_aside : Nat → Int32) (m_kept : Nat → Int32) (m_keptUndos : Int32) (m_isKept : Int32) (m_lanes : Nat → Int32) (m_sizes : Nat → Int32) (m_items : Nat → Int64) (m_moved : Nat → Int64) (i1 : Int32) (i2 : Int32) (i3 : Int32) (r : Int32) (h0 : fX6_has m_now i1 i2 i3 = some (r)) : CI l yX6_has cX6_has 4 (some .int) 4 93 d cy [.ref m0, .int i1, .int i2, .int i3] (wM cy m0 m1 m2 m3 m4 m5 m6 m7 m8 m9 m10 m_now m_tape m_typed m_place m_isFault m_readWet m_readHarvest m_read m_undone m_undos m_bestGain m_aside m_kept m_keptUndos m_isKept m_lanes m_sizes m_items m_moved) (wM cy m0 m1 m2 m3 m4 m5 m6 m7 m8 m9 m10 m_now m_tape m_typed m_place m_isFault m_readWet m_readHarvest m_read m_undone m_undos m_bestGain m_aside m_kept m_keptUndos m_isKept m_lanes m_sizes m_items m_moved) r := by
  refine CI.of (by decide) (Nat.le_of_ble_eq_true rfl) ?_
  intro p e s m args below meth c A ls Q F hret hw hl
  have hx := F.1
  have hb := F.2.1
  have hl : lv_has ls 4 [(0, .ref m0), (1, .int i1), (2, .int i2), (3, .int i3)] := hl
  rw [fX6_has] at h0
  refine lv_aload_n hx hb dX6_has_0 rfl (lv_at hl 0 rfl) ?_
  refine lv_iload_n hx hb dX6_has_1 rfl (lv_at hl 1 rfl) ?_
  obtain ⟨r1, k2, h15⟩ := ob1 h0
  clear h0
  refine g_vi F (cX6_isPerson_ok l d cy m0 m1 m2 m3 m4 m5 m6 m7 m8 m9 m10 m_now m_tape m_typed m_place m_isFault m_readWet m_readHarvest m_read m_undone m_undos m_bestGain m_aside m_kept m_keptUndos m_isKept m_lanes m_sizes m_items m_moved i1 r1 k2) cal_X6_isPerson t_804 rfl ⟨by decide, by decide⟩ hw (w' := wM cy m0 m1 m2 m3 m4 m5 m6 m7 m8 m9 m10 m_now m_tape m_typed m_place m_isFault m_readWet m_readHarvest m_read m_undone m_undos m_bestGain m_aside m_kept m_keptUndos m_isKept m_lanes m_sizes m_items m_moved) Cut.all 0 6 rfl rfl hl.1 (Nat.le_of_ble_eq_true rfl) rfl dX6_has_2 (fun H locs hw => ?_)
  refine lv_if_eq (tgt := 25) hx hb dX6_has_5 (by decide) (fun c3 => ?_) (fun c3 => ?_)
  · rw [if_pos c3] at h15
    refine lv_iconst (v := (-1)) hx hb dX6_has_25 (by decide) ?_
    obtain rfl := inj1 h15
    exact hret _ _ _ _ hw dX6_has_26
  · rw [if_neg c3] at h15
    refine lv_iload_n hx hb dX6_has_8 rfl (lv_at hl 2 rfl) ?_
    obtain ⟨r4, k5, h16⟩ := ob1 h15
    clear h15
    refine g_si F (cX6_isHalf_ok l d cy i2 r4 k5) cal_X6_isHalf t_854 rfl ⟨by decide, by decide⟩ hw (w' := wM cy m0 m1 m2 m3 m4 m5 m6 m7 m8 m9 m10 m_now m_tape m_typed m_place m_isFault m_readWet m_readHarvest m_read m_undone m_undos m_bestGain m_aside m_kept m_keptUndos m_isKept m_lanes m_sizes m_items m_moved) Cut.nil hl.1 (Nat.le_of_ble_eq_true rfl) rfl dX6_has_9 (fun H locs hw => ?_)
    refine lv_if_eq (tgt := 25) hx hb dX6_has_12 (by decide) (fun c6 => ?_) (fun c6 => ?_)
    · rw [if_pos c6] at h16
      refine lv_iconst (v := (-1)) hx hb dX6_has_25 (by decide) ?_
      obtain rfl := inj1 h16
      exact hret _ _ _ _ hw dX6_has_26
    · rw [if_neg c6] at h16
      refine lv_iload_n hx hb dX6_has_15 rfl (lv_at hl 3 rfl) ?_
      refine lv_i2l hx hb dX6_has_16 rfl ?_
      refine lv_lconst (v := 0) hx hb dX6_has_17 (by decide) ?_
      refine lv_lconst (v := 1) hx hb dX6_has_18 (by decide) ?_
      obtain ⟨r7, k8, h17⟩ := ob1 h16
      clear h16
      refine g_si F (cX6_in_ok l d cy (Int32.toInt64 i3) 0 1 r7 k8) cal_X6_in t_793 rfl ⟨by decide, by decide⟩ hw (w' := wM cy m0 m1 m2 m3 m4 m5 m6 m7 m8 m9 m10 m_now m_tape m_typed m_place m_isFault m_readWet m_readHarvest m_read m_undone m_undos m_bestGain m_aside m_kept m_keptUndos m_isKept m_lanes m_sizes m_items m_moved) Cut.nil hl.1 (Nat.le_of_ble_eq_true rfl) rfl dX6_has_19 (fun H locs hw => ?_)
      refine lv_if_ne (tgt := 27) hx hb dX6_has_22 (by decide) (fun c9 => ?_) (fun c9 => ?_)
      · rw [if_neg c9] at h17
        refine lv_iload_n hx hb dX6_has_27 rfl (lv_at hl 3 rfl) ?_
        refine lv_if_ne (tgt := 40) hx hb dX6_has_28 (by decide) (fun c10 => ?_) (fun c10 => ?_)
        · rw [if_neg c10] at h17
          refine lv_aload_n hx hb dX6_has_40 rfl (lv_at hl 0 rfl) ?_
          refine lv_iload_n hx hb dX6_has_41 rfl (lv_at hl 1 rfl) ?_
          refine lv_iload_n hx hb dX6_has_42 rfl (lv_at hl 2 rfl) ?_
          obtain ⟨r11, k12, h18⟩ := ob1 h17
          clear h17
          refine g_vi F (cX6_worthOf_ok l d cy m0 m1 m2 m3 m4 m5 m6 m7 m8 m9 m10 m_now m_tape m_typed m_place m_isFault m_readWet m_readHarvest m_read m_undone m_undos m_bestGain m_aside m_kept m_keptUndos m_isKept m_lanes m_sizes m_items m_moved i1 i2 r11 k12) cal_X6_worthOf t_842 rfl ⟨by decide, by decide⟩ hw (w' := wM cy m0 m1 m2 m3 m4 m5 m6 m7 m8 m9 m10 m_now m_tape m_typed m_place m_isFault m_readWet m_readHarvest m_read m_undone m_undos m_bestGain m_aside m_kept m_keptUndos m_isKept m_lanes m_sizes m_items m_moved) Cut.all 0 6 rfl rfl hl.1 (Nat.le_of_ble_eq_true rfl) rfl dX6_has_43 (fun H locs hw => ?_)
          obtain rfl := inj1 h18
          exact hret _ _ _ _ hw dX6_has_46
        · rw [if_pos c10] at h17
          refine lv_aload_n hx hb dX6_has_31 rfl (lv_at hl 0 rfl) ?_
          refine lv_iload_n hx hb dX6_has_32 rfl (lv_at hl 1 rfl) ?_
          refine lv_iload_n hx hb dX6_has_33 rfl (lv_at hl 2 rfl) ?_
          obtain ⟨r13, k14, h19⟩ := ob1 h17
          clear h17
          refine g_vi F (cX6_manyOf_ok l d cy m0 m1 m2 m3 m4 m5 m6 m7 m8 m9 m10 m_now m_tape m_typed m_place m_isFault m_readWet m_readHarvest m_read m_undone m_undos m_bestGain m_aside m_kept m_keptUndos m_isKept m_lanes m_sizes m_items m_moved i1 i2 r13 k14) cal_X6_manyOf t_830 rfl ⟨by decide, by decide⟩ hw (w' := wM cy m0 m1 m2 m3 m4 m5 m6 m7 m8 m9 m10 m_now m_tape m_typed m_place m_isFault m_readWet m_readHarvest m_read m_undone m_undos m_bestGain m_aside m_kept m_keptUndos m_isKept m_lanes m_sizes m_items m_moved) Cut.all 0 6 rfl rfl hl.1 (Nat.le_of_ble_eq_true rfl) rfl dX6_has_34 (fun H locs hw => ?_)
          refine lv_goto (tgt := 46) hx hb dX6_has_37 (by decide) ?_
          obtain rfl := inj1 h19
          exact hret _ _ _ _ hw dX6_has_46
      · rw [if_pos c9] at h17
        refine lv_iconst (v := (-1)) hx hb dX6_has_25 (by decide) ?_
        obtain rfl := inj1 h17
        exact hret _ _ _ _ hw dX6_has_26
theorem cal_X6_at : CalV yX6_at cX6_at 3 (some .int) RX6 2 := ⟨t_861, t_859, t_860, t_43, by decide +kernel⟩
set_option maxHeartbeats 4000000 in
set_option maxRecDepth 100000 in
theorem cX6_at_ok (l : Launch) (d : va_G) (cy : Nat → ClassId) (m0 m1 m2 m3 m4 m5 m6 m7 m8 m9 m10 : Nat) (m_now : Nat → Int32) (m_tape : Nat → Int32) (m_typed : Int32) (m_place : Int32) (m_isFault : Int32) (m_readWet : Int32) (m_readHarvest : Int32) (m_read : Nat → Int32) (m_undone : Nat → Int32) (m_undos : Int32) (m_bestGain : Int32) (m_aside : Nat → Int32) (m_kept : Nat → Int32) (m_keptUndos : Int32) (m_isKept : Int32) (m_lanes : Nat → Int32) (m_sizes : Nat → Int32) (m_items : Nat → Int64) (m_moved : Nat → Int64) (i1 : Int32) (i2 : Int32) (r : Int32) (h0 : fX6_at m_now i1 i2 = some (r)) : CI l yX6_at cX6_at 3 (some .int) 1 25 d cy [.ref m0, .int i1, .int i2] (wM cy m0 m1 m2 m3 m4 m5 m6 m7 m8 m9 m10 m_now m_tape m_typed m_place m_isFault m_readWet m_readHarvest m_read m_undone m_undos m_bestGain m_aside m_kept m_keptUndos m_isKept m_lanes m_sizes m_items m_moved) (wM cy m0 m1 m2 m3 m4 m5 m6 m7 m8 m9 m10 m_now m_tape m_typed m_place m_isFault m_readWet m_readHarvest m_read m_undone m_undos m_bestGain m_aside m_kept m_keptUndos m_isKept m_lanes m_sizes m_items m_moved) r := by
  refine CI.of (by decide) (Nat.le_of_ble_eq_true rfl) ?_
  intro p e s m args below meth c A ls Q F hret hw hl
  have hx := F.1
  have hb := F.2.1
  have hl : lv_has ls 3 [(0, .ref m0), (1, .int i1), (2, .int i2)] := hl
  rw [fX6_at] at h0
  refine lv_iload_n hx hb dX6_at_0 rfl (lv_at hl 1 rfl) ?_
  refine lv_i2l hx hb dX6_at_1 rfl ?_
  refine lv_lconst (v := 0) hx hb dX6_at_2 (by decide) ?_
  refine lv_ldc2 (v := 5) hx hb F.2.2.2.2.2.1 (F.2.2.2.2.2.2.1 _ t_821) dX6_at_3 ?_
  obtain ⟨r1, k2, h9⟩ := ob1 h0
  clear h0
  refine g_si F (cX6_in_ok l d cy (Int32.toInt64 i1) 0 5 r1 k2) cal_X6_in t_793 rfl ⟨by decide, by decide⟩ hw (w' := wM cy m0 m1 m2 m3 m4 m5 m6 m7 m8 m9 m10 m_now m_tape m_typed m_place m_isFault m_readWet m_readHarvest m_read m_undone m_undos m_bestGain m_aside m_kept m_keptUndos m_isKept m_lanes m_sizes m_items m_moved) Cut.nil hl.1 (Nat.le_of_ble_eq_true rfl) rfl dX6_at_6 (fun H locs hw => ?_)
  refine lv_if_eq (tgt := 37) hx hb dX6_at_9 (by decide) (fun c3 => ?_) (fun c3 => ?_)
  · rw [if_pos c3] at h9
    refine lv_iconst (v := (-1)) hx hb dX6_at_37 (by decide) ?_
    obtain rfl := inj1 h9
    exact hret _ _ _ _ hw dX6_at_38
  · rw [if_neg c3] at h9
    refine lv_iload_n hx hb dX6_at_12 rfl (lv_at hl 2 rfl) ?_
    refine lv_i2l hx hb dX6_at_13 rfl ?_
    refine lv_lconst (v := 0) hx hb dX6_at_14 (by decide) ?_
    refine lv_lconst (v := 1) hx hb dX6_at_15 (by decide) ?_
    obtain ⟨r4, k5, h10⟩ := ob1 h9
    clear h9
    refine g_si F (cX6_in_ok l d cy (Int32.toInt64 i2) 0 1 r4 k5) cal_X6_in t_793 rfl ⟨by decide, by decide⟩ hw (w' := wM cy m0 m1 m2 m3 m4 m5 m6 m7 m8 m9 m10 m_now m_tape m_typed m_place m_isFault m_readWet m_readHarvest m_read m_undone m_undos m_bestGain m_aside m_kept m_keptUndos m_isKept m_lanes m_sizes m_items m_moved) Cut.nil hl.1 (Nat.le_of_ble_eq_true rfl) rfl dX6_at_16 (fun H locs hw => ?_)
    refine lv_if_eq (tgt := 37) hx hb dX6_at_19 (by decide) (fun c6 => ?_) (fun c6 => ?_)
    · rw [if_pos c6] at h10
      refine lv_iconst (v := (-1)) hx hb dX6_at_37 (by decide) ?_
      obtain rfl := inj1 h10
      exact hret _ _ _ _ hw dX6_at_38
    · rw [if_neg c6] at h10
      refine lv_aload_n hx hb dX6_at_22 rfl (lv_at hl 0 rfl) ?_
      refine g_get F inG6 hw 0 rfl rfl 0 (by decide) t_730 (fun _ h9 => h9) rfl dX6_at_23 ?_
      refine lv_iconst (v := 2) hx hb dX6_at_26 (by decide) ?_
      refine lv_iload_n hx hb dX6_at_27 rfl (lv_at hl 2 rfl) ?_
      refine lv_iadd hx hb dX6_at_28 ?_
      obtain ⟨j7, k8, h11⟩ := ob1 h10
      clear h10
      refine g_iald F hw 1 rfl k8 dX6_at_29 ?_
      refine lv_iload_n hx hb dX6_at_30 rfl (lv_at hl 1 rfl) ?_
      refine lv_ishr hx hb dX6_at_31 ?_
      refine lv_iconst (v := 1) hx hb dX6_at_32 (by decide) ?_
      refine lv_iand hx hb dX6_at_33 ?_
      refine lv_goto (tgt := 38) hx hb dX6_at_34 (by decide) ?_
      obtain rfl := inj1 h11
      exact hret _ _ _ _ hw dX6_at_38
theorem cal_X6_chalkAll : CalV yX6_chalkAll cX6_chalkAll 3 (some .int) RX6 0 := ⟨t_873, t_872, t_14, t_43, by decide +kernel⟩
set_option maxHeartbeats 4000000 in
set_option maxRecDepth 100000 in
theorem cX6_chalkAll_ok (l : Launch) (d : va_G) (cy : Nat → ClassId) (m0 m1 m2 m3 m4 m5 m6 m7 m8 m9 m10 : Nat) (m_now : Nat → Int32) (m_tape : Nat → Int32) (m_typed : Int32) (m_place : Int32) (m_isFault : Int32) (m_readWet : Int32) (m_readHarvest : Int32) (m_read : Nat → Int32) (m_undone : Nat → Int32) (m_undos : Int32) (m_bestGain : Int32) (m_aside : Nat → Int32) (m_kept : Nat → Int32) (m_keptUndos : Int32) (m_isKept : Int32) (m_lanes : Nat → Int32) (m_sizes : Nat → Int32) (m_items : Nat → Int64) (m_moved : Nat → Int64) (r : Int32) (h0 : fX6_chalkAll m_now = some (r)) : CI l yX6_chalkAll cX6_chalkAll 3 (some .int) 1 22 d cy [.ref m0] (wM cy m0 m1 m2 m3 m4 m5 m6 m7 m8 m9 m10 m_now m_tape m_typed m_place m_isFault m_readWet m_readHarvest m_read m_undone m_undos m_bestGain m_aside m_kept m_keptUndos m_isKept m_lanes m_sizes m_items m_moved) (wM cy m0 m1 m2 m3 m4 m5 m6 m7 m8 m9 m10 m_now m_tape m_typed m_place m_isFault m_readWet m_readHarvest m_read m_undone m_undos m_bestGain m_aside m_kept m_keptUndos m_isKept m_lanes m_sizes m_items m_moved) r := by
  refine CI.of (by decide) (Nat.le_of_ble_eq_true rfl) ?_
  intro p e s m args below meth c A ls Q F hret hw hl
  have hx := F.1
  have hb := F.2.1
  have hl : lv_has ls 3 [(0, .ref m0)] := hl
  rw [fX6_chalkAll] at h0
  refine lv_iconst (v := 0) hx hb dX6_chalkAll_0 (by decide) ?_
  refine lv_istore_n (lv' := [(1, .int 0), (0, .ref m0)]) hx hb dX6_chalkAll_1 rfl hl (by decide) rfl (fun ls hl => ?_)
  refine lv_iconst (v := 0) hx hb dX6_chalkAll_2 (by decide) ?_
  refine lv_istore_n (lv' := [(2, .int 0), (1, .int 0), (0, .ref m0)]) hx hb dX6_chalkAll_3 rfl hl (by decide) rfl (fun ls hl => ?_)
  obtain ⟨o18, h24, h25⟩ := ob1 h0
  clear h0
  have kont15 : ∀ (H : Heap) (locs : List Loc) (ls : Array Slot), Wd d A s.heap (wM cy m0 m1 m2 m3 m4 m5 m6 m7 m8 m9 m10 m_now m_tape m_typed m_place m_isFault m_readWet m_readHarvest m_read m_undone m_undos m_bestGain m_aside m_kept m_keptUndos m_isKept m_lanes m_sizes m_items m_moved) H locs → lv_has ls 3 [(1, .int o18)] → W p l e (rmo 1 22) s m args below meth c H locs 0 0 Q (F0 m 29 ls []) := by
    intro H locs ls hw hl
    clear h24
    refine lv_iload_n hx hb dX6_chalkAll_29 rfl (lv_at hl 0 rfl) ?_
    obtain rfl := inj1 h25
    exact hret _ _ _ _ hw dX6_chalkAll_30
  clear h25
  have loop17 : ∀ (n : Nat) (v13 : Int32) (v14 : Int32) (H : Heap) (locs : List Loc) (ls : Array Slot), Wd d A s.heap (wM cy m0 m1 m2 m3 m4 m5 m6 m7 m8 m9 m10 m_now m_tape m_typed m_place m_isFault m_readWet m_readHarvest m_read m_undone m_undos m_bestGain m_aside m_kept m_keptUndos m_isKept m_lanes m_sizes m_items m_moved) H locs → lv_has ls 3 [(0, .ref m0), (1, .int v13), (2, .int v14)] → fX6_chalkAll_L4 m_now n v13 v14 = some (o18) → W p l e (rmo 1 22) s m args below meth c H locs 0 0 Q (F0 m 4 ls []) := by
    intro n
    induction n with
    | zero =>
      intro v13 v14 H locs ls hw hl h26
      rw [fX6_chalkAll_L4] at h26
      cases h26
    | succ n ih16 =>
      intro v13 v14 H locs ls hw hl h27
      rw [fX6_chalkAll_L4] at h27
      refine lv_iload_n hx hb dX6_chalkAll_4 rfl (lv_at hl 2 rfl) ?_
      refine lv_aload_n hx hb dX6_chalkAll_5 rfl (lv_at hl 0 rfl) ?_
      refine g_get F inG6 hw 0 rfl rfl 0 (by decide) t_730 (fun _ h9 => h9) rfl dX6_chalkAll_6 ?_
      refine lv_iconst (v := 0) hx hb dX6_chalkAll_9 (by decide) ?_
      obtain ⟨j19, k20, h28⟩ := ob1 h27
      clear h27
      refine g_iald F hw 1 rfl k20 dX6_chalkAll_10 ?_
      refine lv_icmp_ge (tgt := 29) hx hb dX6_chalkAll_11 (by decide) (fun c21 => ?_) (fun c21 => ?_)
      · rw [if_pos c21] at h28
        obtain rfl := inj1 h28
        exact kont15 _ _ _ hw (lv_sub hl [1] rfl)
      · rw [if_neg c21] at h28
        refine lv_iload_n hx hb dX6_chalkAll_14 rfl (lv_at hl 1 rfl) ?_
        refine lv_aload_n hx hb dX6_chalkAll_15 rfl (lv_at hl 0 rfl) ?_
        refine lv_iload_n hx hb dX6_chalkAll_16 rfl (lv_at hl 2 rfl) ?_
        refine lv_iconst (v := 2) hx hb dX6_chalkAll_17 (by decide) ?_
        obtain ⟨r22, k23, h29⟩ := ob1 h28
        clear h28
        refine g_vi F (cX6_ofPerson_ok l d cy m0 m1 m2 m3 m4 m5 m6 m7 m8 m9 m10 m_now m_tape m_typed m_place m_isFault m_readWet m_readHarvest m_read m_undone m_undos m_bestGain m_aside m_kept m_keptUndos m_isKept m_lanes m_sizes m_items m_moved v14 2 r22 k23) cal_X6_ofPerson t_808 rfl ⟨by decide, by decide⟩ hw (w' := wM cy m0 m1 m2 m3 m4 m5 m6 m7 m8 m9 m10 m_now m_tape m_typed m_place m_isFault m_readWet m_readHarvest m_read m_undone m_undos m_bestGain m_aside m_kept m_keptUndos m_isKept m_lanes m_sizes m_items m_moved) Cut.all 0 6 rfl rfl hl.1 (Nat.le_of_ble_eq_true rfl) rfl dX6_chalkAll_18 (fun H locs hw => ?_)
        refine lv_iadd hx hb dX6_chalkAll_21 ?_
        refine lv_istore_n (lv' := [(1, .int (v13 + r22)), (0, .ref m0), (2, .int v14)]) hx hb dX6_chalkAll_22 rfl hl (by decide) rfl (fun ls hl => ?_)
        refine lv_iinc (v := (v14 + 1)) (lv' := [(2, .int (v14 + 1)), (1, .int (v13 + r22)), (0, .ref m0)]) hx hb dX6_chalkAll_23 hl (k := 2) rfl rfl (by decide) rfl (fun ls hl => ?_)
        refine lv_goto (tgt := 4) hx hb dX6_chalkAll_26 (by decide) ?_
        exact ih16 (v13 + r22) (v14 + 1) _ _ _ hw (lv_sub hl [2, 1, 0] rfl) h29
  exact loop17 fl 0 0 _ _ _ hw (lv_sub hl [2, 1, 0] rfl) h24
theorem cal_X6_count : CalV yX6_count cX6_count 2 (some .int) RX6 1 := ⟨t_865, t_863, t_864, t_43, by decide +kernel⟩
set_option maxHeartbeats 4000000 in
set_option maxRecDepth 100000 in
theorem cX6_count_ok (l : Launch) (d : va_G) (cy : Nat → ClassId) (m0 m1 m2 m3 m4 m5 m6 m7 m8 m9 m10 : Nat) (m_now : Nat → Int32) (m_tape : Nat → Int32) (m_typed : Int32) (m_place : Int32) (m_isFault : Int32) (m_readWet : Int32) (m_readHarvest : Int32) (m_read : Nat → Int32) (m_undone : Nat → Int32) (m_undos : Int32) (m_bestGain : Int32) (m_aside : Nat → Int32) (m_kept : Nat → Int32) (m_keptUndos : Int32) (m_isKept : Int32) (m_lanes : Nat → Int32) (m_sizes : Nat → Int32) (m_items : Nat → Int64) (m_moved : Nat → Int64) (i1 : Int32) (r : Int32) (h0 : fX6_count m_now m_undos i1 = some (r)) : CI l yX6_count cX6_count 2 (some .int) 6 138 d cy [.ref m0, .int i1] (wM cy m0 m1 m2 m3 m4 m5 m6 m7 m8 m9 m10 m_now m_tape m_typed m_place m_isFault m_readWet m_readHarvest m_read m_undone m_undos m_bestGain m_aside m_kept m_keptUndos m_isKept m_lanes m_sizes m_items m_moved) (wM cy m0 m1 m2 m3 m4 m5 m6 m7 m8 m9 m10 m_now m_tape m_typed m_place m_isFault m_readWet m_readHarvest m_read m_undone m_undos m_bestGain m_aside m_kept m_keptUndos m_isKept m_lanes m_sizes m_items m_moved) r := by
  refine CI.of (by decide) (Nat.le_of_ble_eq_true rfl) ?_
  intro p e s m args below meth c A ls Q F hret hw hl
  have hx := F.1
  have hb := F.2.1
  have hl : lv_has ls 2 [(0, .ref m0), (1, .int i1)] := hl
  rw [fX6_count] at h0
  refine lv_iload_n hx hb dX6_count_0 rfl (lv_at hl 1 rfl) ?_
  by_cases c13 : i1 = 0
  · rw [if_pos c13] at h0
    refine lv_tableIn (off := 43) (tgt := 44) hx hb dX6_count_1 (by rw [c13]; decide) (by rw [c13]; decide) (by rw [c13]; rfl) (by decide) ?_
    refine lv_aload_n hx hb dX6_count_44 rfl (lv_at hl 0 rfl) ?_
    refine g_get F inG6 hw 0 rfl rfl 0 (by decide) t_730 (fun _ h9 => h9) rfl dX6_count_45 ?_
    refine lv_iload_n hx hb dX6_count_48 rfl (lv_at hl 1 rfl) ?_
    obtain ⟨j1, k2, h14⟩ := ob1 h0
    clear h0
    refine g_iald F hw 1 rfl k2 dX6_count_49 ?_
    obtain rfl := inj1 h14
    exact hret _ _ _ _ hw dX6_count_50
  rw [if_neg c13] at h0
  by_cases c15 : i1 = 1
  · rw [if_pos c15] at h0
    refine lv_tableIn (off := 43) (tgt := 44) hx hb dX6_count_1 (by rw [c15]; decide) (by rw [c15]; decide) (by rw [c15]; rfl) (by decide) ?_
    refine lv_aload_n hx hb dX6_count_44 rfl (lv_at hl 0 rfl) ?_
    refine g_get F inG6 hw 0 rfl rfl 0 (by decide) t_730 (fun _ h9 => h9) rfl dX6_count_45 ?_
    refine lv_iload_n hx hb dX6_count_48 rfl (lv_at hl 1 rfl) ?_
    obtain ⟨j3, k4, h16⟩ := ob1 h0
    clear h0
    refine g_iald F hw 1 rfl k4 dX6_count_49 ?_
    obtain rfl := inj1 h16
    exact hret _ _ _ _ hw dX6_count_50
  rw [if_neg c15] at h0
  by_cases c17 : i1 = 2
  · rw [if_pos c17] at h0
    refine lv_tableIn (off := 43) (tgt := 44) hx hb dX6_count_1 (by rw [c17]; decide) (by rw [c17]; decide) (by rw [c17]; rfl) (by decide) ?_
    refine lv_aload_n hx hb dX6_count_44 rfl (lv_at hl 0 rfl) ?_
    refine g_get F inG6 hw 0 rfl rfl 0 (by decide) t_730 (fun _ h9 => h9) rfl dX6_count_45 ?_
    refine lv_iload_n hx hb dX6_count_48 rfl (lv_at hl 1 rfl) ?_
    obtain ⟨j5, k6, h18⟩ := ob1 h0
    clear h0
    refine g_iald F hw 1 rfl k6 dX6_count_49 ?_
    obtain rfl := inj1 h18
    exact hret _ _ _ _ hw dX6_count_50
  rw [if_neg c17] at h0
  by_cases c19 : i1 = 3
  · rw [if_pos c19] at h0
    refine lv_tableIn (off := 43) (tgt := 44) hx hb dX6_count_1 (by rw [c19]; decide) (by rw [c19]; decide) (by rw [c19]; rfl) (by decide) ?_
    refine lv_aload_n hx hb dX6_count_44 rfl (lv_at hl 0 rfl) ?_
    refine g_get F inG6 hw 0 rfl rfl 0 (by decide) t_730 (fun _ h9 => h9) rfl dX6_count_45 ?_
    refine lv_iload_n hx hb dX6_count_48 rfl (lv_at hl 1 rfl) ?_
    obtain ⟨j7, k8, h20⟩ := ob1 h0
    clear h0
    refine g_iald F hw 1 rfl k8 dX6_count_49 ?_
    obtain rfl := inj1 h20
    exact hret _ _ _ _ hw dX6_count_50
  rw [if_neg c19] at h0
  by_cases c21 : i1 = 4
  · rw [if_pos c21] at h0
    refine lv_tableIn (off := 50) (tgt := 51) hx hb dX6_count_1 (by rw [c21]; decide) (by rw [c21]; decide) (by rw [c21]; rfl) (by decide) ?_
    refine lv_aload_n hx hb dX6_count_51 rfl (lv_at hl 0 rfl) ?_
    obtain ⟨r9, k10, h22⟩ := ob1 h0
    clear h0
    refine g_vi F (cX6_worthAll_ok l d cy m0 m1 m2 m3 m4 m5 m6 m7 m8 m9 m10 m_now m_tape m_typed m_place m_isFault m_readWet m_readHarvest m_read m_undone m_undos m_bestGain m_aside m_kept m_keptUndos m_isKept m_lanes m_sizes m_items m_moved r9 k10) cal_X6_worthAll t_866 rfl ⟨by decide, by decide⟩ hw (w' := wM cy m0 m1 m2 m3 m4 m5 m6 m7 m8 m9 m10 m_now m_tape m_typed m_place m_isFault m_readWet m_readHarvest m_read m_undone m_undos m_bestGain m_aside m_kept m_keptUndos m_isKept m_lanes m_sizes m_items m_moved) Cut.all 0 6 rfl rfl hl.1 (Nat.le_of_ble_eq_true rfl) rfl dX6_count_52 (fun H locs hw => ?_)
    obtain rfl := inj1 h22
    exact hret _ _ _ _ hw dX6_count_55
  rw [if_neg c21] at h0
  by_cases c23 : i1 = 5
  · rw [if_pos c23] at h0
    refine lv_tableIn (off := 55) (tgt := 56) hx hb dX6_count_1 (by rw [c23]; decide) (by rw [c23]; decide) (by rw [c23]; rfl) (by decide) ?_
    refine lv_aload_n hx hb dX6_count_56 rfl (lv_at hl 0 rfl) ?_
    obtain ⟨r11, k12, h24⟩ := ob1 h0
    clear h0
    refine g_vi F (cX6_chalkAll_ok l d cy m0 m1 m2 m3 m4 m5 m6 m7 m8 m9 m10 m_now m_tape m_typed m_place m_isFault m_readWet m_readHarvest m_read m_undone m_undos m_bestGain m_aside m_kept m_keptUndos m_isKept m_lanes m_sizes m_items m_moved r11 k12) cal_X6_chalkAll t_870 rfl ⟨by decide, by decide⟩ hw (w' := wM cy m0 m1 m2 m3 m4 m5 m6 m7 m8 m9 m10 m_now m_tape m_typed m_place m_isFault m_readWet m_readHarvest m_read m_undone m_undos m_bestGain m_aside m_kept m_keptUndos m_isKept m_lanes m_sizes m_items m_moved) Cut.all 0 6 rfl rfl hl.1 (Nat.le_of_ble_eq_true rfl) rfl dX6_count_57 (fun H locs hw => ?_)
    obtain rfl := inj1 h24
    exact hret _ _ _ _ hw dX6_count_60
  rw [if_neg c23] at h0
  by_cases c25 : i1 = 6
  · rw [if_pos c25] at h0
    refine lv_tableIn (off := 60) (tgt := 61) hx hb dX6_count_1 (by rw [c25]; decide) (by rw [c25]; decide) (by rw [c25]; rfl) (by decide) ?_
    refine lv_aload_n hx hb dX6_count_61 rfl (lv_at hl 0 rfl) ?_
    refine g_get F inG6 hw 0 rfl rfl 9 (by decide) t_739 (fun _ h9 => h9) rfl dX6_count_62 ?_
    obtain rfl := inj1 h0
    exact hret _ _ _ _ hw dX6_count_65
  rw [if_neg c25] at h0
  have nc13 := lv_neT c13 (a := 0) (by decide)
  have nc15 := lv_neT c15 (a := 1) (by decide)
  have nc17 := lv_neT c17 (a := 2) (by decide)
  have nc19 := lv_neT c19 (a := 3) (by decide)
  have nc21 := lv_neT c21 (a := 4) (by decide)
  have nc23 := lv_neT c23 (a := 5) (by decide)
  have nc25 := lv_neT c25 (a := 6) (by decide)
  refine lv_tableOut (tgt := 66) hx hb dX6_count_1 (by omega) (by decide) ?_
  refine lv_iconst (v := (-1)) hx hb dX6_count_66 (by decide) ?_
  obtain rfl := inj1 h0
  exact hret _ _ _ _ hw dX6_count_67
theorem cal_X6_type : CalV yX6_type cX6_type 2 (some .int) RX6 1 := ⟨t_877, t_875, t_876, t_43, by decide +kernel⟩
set_option maxHeartbeats 4000000 in
set_option maxRecDepth 100000 in
theorem cX6_type_ok (l : Launch) (d : va_G) (cy : Nat → ClassId) (m0 m1 m2 m3 m4 m5 m6 m7 m8 m9 m10 : Nat) (m_now : Nat → Int32) (m_tape : Nat → Int32) (m_typed : Int32) (m_place : Int32) (m_isFault : Int32) (m_readWet : Int32) (m_readHarvest : Int32) (m_read : Nat → Int32) (m_undone : Nat → Int32) (m_undos : Int32) (m_bestGain : Int32) (m_aside : Nat → Int32) (m_kept : Nat → Int32) (m_keptUndos : Int32) (m_isKept : Int32) (m_lanes : Nat → Int32) (m_sizes : Nat → Int32) (m_items : Nat → Int64) (m_moved : Nat → Int64) (i1 : Int32) (r : Int32) (m_tape_r : Nat → Int32) (m_typed_r : Int32) (h0 : fX6_type m_tape m_typed i1 = some (r, m_tape_r, m_typed_r)) : CI l yX6_type cX6_type 2 (some .int) 1 25 d cy [.ref m0, .int i1] (wM cy m0 m1 m2 m3 m4 m5 m6 m7 m8 m9 m10 m_now m_tape m_typed m_place m_isFault m_readWet m_readHarvest m_read m_undone m_undos m_bestGain m_aside m_kept m_keptUndos m_isKept m_lanes m_sizes m_items m_moved) (wM cy m0 m1 m2 m3 m4 m5 m6 m7 m8 m9 m10 m_now m_tape_r m_typed_r m_place m_isFault m_readWet m_readHarvest m_read m_undone m_undos m_bestGain m_aside m_kept m_keptUndos m_isKept m_lanes m_sizes m_items m_moved) r := by
  refine CI.of (by decide) (Nat.le_of_ble_eq_true rfl) ?_
  intro p e s m args below meth c A ls Q F hret hw hl
  have hx := F.1
  have hb := F.2.1
  have hl : lv_has ls 2 [(0, .ref m0), (1, .int i1)] := hl
  rw [fX6_type] at h0
  refine lv_iload_n hx hb dX6_type_0 rfl (lv_at hl 1 rfl) ?_
  refine lv_i2l hx hb dX6_type_1 rfl ?_
  refine lv_ldc2 (v := 32) hx hb F.2.2.2.2.2.1 (F.2.2.2.2.2.2.1 _ t_878) dX6_type_2 ?_
  refine lv_ldc2 (v := 126) hx hb F.2.2.2.2.2.1 (F.2.2.2.2.2.2.1 _ t_879) dX6_type_5 ?_
  obtain ⟨r1, k2, h7⟩ := ob1 h0
  clear h0
  refine g_si F (cX6_in_ok l d cy (Int32.toInt64 i1) 32 126 r1 k2) cal_X6_in t_793 rfl ⟨by decide, by decide⟩ hw (w' := wM cy m0 m1 m2 m3 m4 m5 m6 m7 m8 m9 m10 m_now m_tape m_typed m_place m_isFault m_readWet m_readHarvest m_read m_undone m_undos m_bestGain m_aside m_kept m_keptUndos m_isKept m_lanes m_sizes m_items m_moved) Cut.nil hl.1 (Nat.le_of_ble_eq_true rfl) rfl dX6_type_8 (fun H locs hw => ?_)
  refine lv_if_ne (tgt := 16) hx hb dX6_type_11 (by decide) (fun c3 => ?_) (fun c3 => ?_)
  · rw [if_neg c3] at h7
    refine lv_aload_n hx hb dX6_type_16 rfl (lv_at hl 0 rfl) ?_
    refine g_get F inG6 hw 0 rfl rfl 2 (by decide) t_732 (fun _ h9 => h9) rfl dX6_type_17 ?_
    refine lv_bipush (v := 100) hx hb dX6_type_20 (by decide) ?_
    refine lv_icmp_ne (tgt := 28) hx hb dX6_type_22 (by decide) (fun c4 => ?_) (fun c4 => ?_)
    · rw [if_neg c4] at h7
      refine lv_aload_n hx hb dX6_type_28 rfl (lv_at hl 0 rfl) ?_
      refine g_get F inG6 hw 0 rfl rfl 1 (by decide) t_731 (fun _ h9 => h9) rfl dX6_type_29 ?_
      refine lv_aload_n hx hb dX6_type_32 rfl (lv_at hl 0 rfl) ?_
      refine g_get F inG6 hw 0 rfl rfl 2 (by decide) t_732 (fun _ h9 => h9) rfl dX6_type_33 ?_
      refine lv_iload_n hx hb dX6_type_36 rfl (lv_at hl 1 rfl) ?_
      obtain ⟨j5, k6, h8⟩ := ob1 h7
      clear h7
      refine g_iast F hw 2 rfl k6 dX6_type_37 (w' := wM cy m0 m1 m2 m3 m4 m5 m6 m7 m8 m9 m10 m_now (upd m_tape j5 i1) m_typed m_place m_isFault m_readWet m_readHarvest m_read m_undone m_undos m_bestGain m_aside m_kept m_keptUndos m_isKept m_lanes m_sizes m_items m_moved) rfl (fun H locs hw => ?_)
      refine lv_aload_n hx hb dX6_type_38 rfl (lv_at hl 0 rfl) ?_
      refine lv_dup hx hb dX6_type_39 rfl ?_
      refine g_get F inG6 hw 0 rfl rfl 2 (by decide) t_732 (fun _ h9 => h9) rfl dX6_type_40 ?_
      refine lv_iconst (v := 1) hx hb dX6_type_43 (by decide) ?_
      refine lv_iadd hx hb dX6_type_44 ?_
      refine g_put F inG6 tyX6 tyX6_ok nmX6 hw 0 rfl rfl 2 (by decide) t_732 (fun _ h9 => h9) rfl (ty := .int) (by decide +kernel) rfl rfl (Nat.le_of_ble_eq_true rfl) dX6_type_45 (w' := wM cy m0 m1 m2 m3 m4 m5 m6 m7 m8 m9 m10 m_now (upd m_tape j5 i1) (m_typed + 1) m_place m_isFault m_readWet m_readHarvest m_read m_undone m_undos m_bestGain m_aside m_kept m_keptUndos m_isKept m_lanes m_sizes m_items m_moved) rfl (fun H locs hw => ?_)
      refine lv_aload_n hx hb dX6_type_48 rfl (lv_at hl 0 rfl) ?_
      refine g_get F inG6 hw 0 rfl rfl 2 (by decide) t_732 (fun _ h9 => h9) rfl dX6_type_49 ?_
      obtain ⟨rfl, rfl, rfl⟩ := inj3 h8
      exact hret _ _ _ _ hw dX6_type_52
    · rw [if_pos c4] at h7
      refine lv_bipush (v := (-3)) hx hb dX6_type_25 (by decide) ?_
      obtain ⟨rfl, rfl, rfl⟩ := inj3 h7
      exact hret _ _ _ _ hw dX6_type_27
  · rw [if_pos c3] at h7
    refine lv_iconst (v := (-1)) hx hb dX6_type_14 (by decide) ?_
    obtain ⟨rfl, rfl, rfl⟩ := inj3 h7
    exact hret _ _ _ _ hw dX6_type_15
theorem cal_X6_here : CalV yX6_here cX6_here 1 (some .int) RX6 0 := ⟨t_891, t_890, t_16, t_43, by decide +kernel⟩
set_option maxHeartbeats 4000000 in
set_option maxRecDepth 100000 in
theorem cX6_here_ok (l : Launch) (d : va_G) (cy : Nat → ClassId) (m0 m1 m2 m3 m4 m5 m6 m7 m8 m9 m10 : Nat) (m_now : Nat → Int32) (m_tape : Nat → Int32) (m_typed : Int32) (m_place : Int32) (m_isFault : Int32) (m_readWet : Int32) (m_readHarvest : Int32) (m_read : Nat → Int32) (m_undone : Nat → Int32) (m_undos : Int32) (m_bestGain : Int32) (m_aside : Nat → Int32) (m_kept : Nat → Int32) (m_keptUndos : Int32) (m_isKept : Int32) (m_lanes : Nat → Int32) (m_sizes : Nat → Int32) (m_items : Nat → Int64) (m_moved : Nat → Int64) (r : Int32) (m_place_r : Int32) (h0 : fX6_here m_tape m_typed m_place = some (r, m_place_r)) : CI l yX6_here cX6_here 1 (some .int) 0 0 d cy [.ref m0] (wM cy m0 m1 m2 m3 m4 m5 m6 m7 m8 m9 m10 m_now m_tape m_typed m_place m_isFault m_readWet m_readHarvest m_read m_undone m_undos m_bestGain m_aside m_kept m_keptUndos m_isKept m_lanes m_sizes m_items m_moved) (wM cy m0 m1 m2 m3 m4 m5 m6 m7 m8 m9 m10 m_now m_tape m_typed m_place_r m_isFault m_readWet m_readHarvest m_read m_undone m_undos m_bestGain m_aside m_kept m_keptUndos m_isKept m_lanes m_sizes m_items m_moved) r := by
  refine CI.of (by decide) (Nat.le_of_ble_eq_true rfl) ?_
  intro p e s m args below meth c A ls Q F hret hw hl
  have hx := F.1
  have hb := F.2.1
  have hl : lv_has ls 1 [(0, .ref m0)] := hl
  rw [fX6_here] at h0
  obtain ⟨o14, h22, h23⟩ := ob1 h0
  clear h0
  have kont11 : ∀ (H : Heap) (locs : List Loc) (ls : Array Slot), Wd d A s.heap (wM cy m0 m1 m2 m3 m4 m5 m6 m7 m8 m9 m10 m_now m_tape m_typed o14 m_isFault m_readWet m_readHarvest m_read m_undone m_undos m_bestGain m_aside m_kept m_keptUndos m_isKept m_lanes m_sizes m_items m_moved) H locs → lv_has ls 1 [(0, .ref m0)] → W p l e (rmo 0 0) s m args below meth c H locs 0 0 Q (F0 m 38 ls []) := by
    intro H locs ls hw hl
    clear h22
    refine lv_aload_n hx hb dX6_here_38 rfl (lv_at hl 0 rfl) ?_
    refine g_get F inG6 hw 0 rfl rfl 3 (by decide) t_733 (fun _ h9 => h9) rfl dX6_here_39 ?_
    refine lv_aload_n hx hb dX6_here_42 rfl (lv_at hl 0 rfl) ?_
    refine g_get F inG6 hw 0 rfl rfl 2 (by decide) t_732 (fun _ h9 => h9) rfl dX6_here_43 ?_
    refine lv_icmp_ge (tgt := 61) hx hb dX6_here_46 (by decide) (fun c19 => ?_) (fun c19 => ?_)
    · rw [if_pos c19] at h23
      refine lv_iconst (v := 0) hx hb dX6_here_61 (by decide) ?_
      obtain ⟨rfl, rfl⟩ := inj2 h23
      exact hret _ _ _ _ hw dX6_here_62
    · rw [if_neg c19] at h23
      refine lv_aload_n hx hb dX6_here_49 rfl (lv_at hl 0 rfl) ?_
      refine g_get F inG6 hw 0 rfl rfl 1 (by decide) t_731 (fun _ h9 => h9) rfl dX6_here_50 ?_
      refine lv_aload_n hx hb dX6_here_53 rfl (lv_at hl 0 rfl) ?_
      refine g_get F inG6 hw 0 rfl rfl 3 (by decide) t_733 (fun _ h9 => h9) rfl dX6_here_54 ?_
      obtain ⟨j20, k21, h24⟩ := ob1 h23
      clear h23
      refine g_iald F hw 2 rfl k21 dX6_here_57 ?_
      refine lv_goto (tgt := 62) hx hb dX6_here_58 (by decide) ?_
      obtain ⟨rfl, rfl⟩ := inj2 h24
      exact hret _ _ _ _ hw dX6_here_62
  clear h23
  have loop13 : ∀ (n : Nat) (v10 : Int32) (H : Heap) (locs : List Loc) (ls : Array Slot), Wd d A s.heap (wM cy m0 m1 m2 m3 m4 m5 m6 m7 m8 m9 m10 m_now m_tape m_typed v10 m_isFault m_readWet m_readHarvest m_read m_undone m_undos m_bestGain m_aside m_kept m_keptUndos m_isKept m_lanes m_sizes m_items m_moved) H locs → lv_has ls 1 [(0, .ref m0)] → fX6_here_L0 m_tape m_typed n v10 = some (o14) → W p l e (rmo 0 0) s m args below meth c H locs 0 0 Q (F0 m 0 ls []) := by
    intro n
    induction n with
    | zero =>
      intro v10 H locs ls hw hl h25
      rw [fX6_here_L0] at h25
      cases h25
    | succ n ih12 =>
      intro v10 H locs ls hw hl h26
      rw [fX6_here_L0] at h26
      refine lv_aload_n hx hb dX6_here_0 rfl (lv_at hl 0 rfl) ?_
      refine g_get F inG6 hw 0 rfl rfl 3 (by decide) t_733 (fun _ h9 => h9) rfl dX6_here_1 ?_
      refine lv_aload_n hx hb dX6_here_4 rfl (lv_at hl 0 rfl) ?_
      refine g_get F inG6 hw 0 rfl rfl 2 (by decide) t_732 (fun _ h9 => h9) rfl dX6_here_5 ?_
      refine lv_icmp_ge (tgt := 38) hx hb dX6_here_8 (by decide) (fun c15 => ?_) (fun c15 => ?_)
      · rw [if_pos c15] at h26
        obtain rfl := inj1 h26
        exact kont11 _ _ _ hw (lv_sub hl [0] rfl)
      · rw [if_neg c15] at h26
        refine lv_aload_n hx hb dX6_here_11 rfl (lv_at hl 0 rfl) ?_
        refine g_get F inG6 hw 0 rfl rfl 1 (by decide) t_731 (fun _ h9 => h9) rfl dX6_here_12 ?_
        refine lv_aload_n hx hb dX6_here_15 rfl (lv_at hl 0 rfl) ?_
        refine g_get F inG6 hw 0 rfl rfl 3 (by decide) t_733 (fun _ h9 => h9) rfl dX6_here_16 ?_
        obtain ⟨j16, k17, h27⟩ := ob1 h26
        clear h26
        refine g_iald F hw 2 rfl k17 dX6_here_19 ?_
        refine lv_bipush (v := 32) hx hb dX6_here_20 (by decide) ?_
        refine lv_icmp_ne (tgt := 38) hx hb dX6_here_22 (by decide) (fun c18 => ?_) (fun c18 => ?_)
        · rw [if_neg c18] at h27
          obtain rfl := inj1 h27
          exact kont11 _ _ _ hw (lv_sub hl [0] rfl)
        · rw [if_pos c18] at h27
          refine lv_aload_n hx hb dX6_here_25 rfl (lv_at hl 0 rfl) ?_
          refine lv_dup hx hb dX6_here_26 rfl ?_
          refine g_get F inG6 hw 0 rfl rfl 3 (by decide) t_733 (fun _ h9 => h9) rfl dX6_here_27 ?_
          refine lv_iconst (v := 1) hx hb dX6_here_30 (by decide) ?_
          refine lv_iadd hx hb dX6_here_31 ?_
          refine g_put F inG6 tyX6 tyX6_ok nmX6 hw 0 rfl rfl 3 (by decide) t_733 (fun _ h9 => h9) rfl (ty := .int) (by decide +kernel) rfl rfl (Nat.le_of_ble_eq_true rfl) dX6_here_32 (w' := wM cy m0 m1 m2 m3 m4 m5 m6 m7 m8 m9 m10 m_now m_tape m_typed (v10 + 1) m_isFault m_readWet m_readHarvest m_read m_undone m_undos m_bestGain m_aside m_kept m_keptUndos m_isKept m_lanes m_sizes m_items m_moved) rfl (fun H locs hw => ?_)
          refine lv_goto (tgt := 0) hx hb dX6_here_35 (by decide) ?_
          exact ih12 (v10 + 1) _ _ _ hw (lv_sub hl [0] rfl) h27
  exact loop13 fl m_place _ _ _ hw (lv_sub hl [0] rfl) h22
theorem cal_X6_must : CalV yX6_must cX6_must 2 none RX6 1 := ⟨t_895, t_894, t_17, t_43, by decide +kernel⟩
set_option maxHeartbeats 4000000 in
set_option maxRecDepth 100000 in
theorem cX6_must_ok (l : Launch) (d : va_G) (cy : Nat → ClassId) (m0 m1 m2 m3 m4 m5 m6 m7 m8 m9 m10 : Nat) (m_now : Nat → Int32) (m_tape : Nat → Int32) (m_typed : Int32) (m_place : Int32) (m_isFault : Int32) (m_readWet : Int32) (m_readHarvest : Int32) (m_read : Nat → Int32) (m_undone : Nat → Int32) (m_undos : Int32) (m_bestGain : Int32) (m_aside : Nat → Int32) (m_kept : Nat → Int32) (m_keptUndos : Int32) (m_isKept : Int32) (m_lanes : Nat → Int32) (m_sizes : Nat → Int32) (m_items : Nat → Int64) (m_moved : Nat → Int64) (i1 : Int32) (m_place_r : Int32) (m_isFault_r : Int32) (h0 : fX6_must m_place m_isFault i1 = some (m_place_r, m_isFault_r)) : CV l yX6_must cX6_must 2 none 0 0 d cy [.ref m0, .int i1] (wM cy m0 m1 m2 m3 m4 m5 m6 m7 m8 m9 m10 m_now m_tape m_typed m_place m_isFault m_readWet m_readHarvest m_read m_undone m_undos m_bestGain m_aside m_kept m_keptUndos m_isKept m_lanes m_sizes m_items m_moved) (wM cy m0 m1 m2 m3 m4 m5 m6 m7 m8 m9 m10 m_now m_tape m_typed m_place_r m_isFault_r m_readWet m_readHarvest m_read m_undone m_undos m_bestGain m_aside m_kept m_keptUndos m_isKept m_lanes m_sizes m_items m_moved) := by
  refine CV.of (by decide) (Nat.le_of_ble_eq_true rfl) ?_
  intro p e s m args below meth c A ls Q F hret hw hl
  have hx := F.1
  have hb := F.2.1
  have hl : lv_has ls 2 [(0, .ref m0), (1, .int i1)] := hl
  rw [fX6_must] at h0
  refine lv_aload_n hx hb dX6_must_0 rfl (lv_at hl 0 rfl) ?_
  refine lv_aload_n hx hb dX6_must_1 rfl (lv_at hl 0 rfl) ?_
  refine g_get F inG6 hw 0 rfl rfl 4 (by decide) t_734 (fun _ h9 => h9) rfl dX6_must_2 ?_
  obtain ⟨x3, h12, h13⟩ := ob1 h0
  clear h0
  have kont4 : ∀ (H : Heap) (locs : List Loc) (ls : Array Slot), Wd d A s.heap (wM cy m0 m1 m2 m3 m4 m5 m6 m7 m8 m9 m10 m_now m_tape m_typed m_place m_isFault m_readWet m_readHarvest m_read m_undone m_undos m_bestGain m_aside m_kept m_keptUndos m_isKept m_lanes m_sizes m_items m_moved) H locs → lv_has ls 2 [(0, .ref m0)] → W p l e (rmo 0 0) s m args below meth c H locs 0 0 Q (F0 m 17 ls [.int x3, .ref m0]) := by
    intro H locs ls hw hl
    clear h12
    obtain ⟨k7, h14⟩ := ob0 h13
    clear h13
    refine g_put F inG6 tyX6 tyX6_ok nmX6 hw 0 rfl rfl 4 (by decide) t_734 (fun _ h9 => h9) rfl (ty := .boolean) (by decide +kernel) (isb_nar k7) (isb_fit k7) (Nat.le_of_ble_eq_true rfl) dX6_must_17 (w' := wM cy m0 m1 m2 m3 m4 m5 m6 m7 m8 m9 m10 m_now m_tape m_typed m_place x3 m_readWet m_readHarvest m_read m_undone m_undos m_bestGain m_aside m_kept m_keptUndos m_isKept m_lanes m_sizes m_items m_moved) rfl (fun H locs hw => ?_)
    refine lv_aload_n hx hb dX6_must_20 rfl (lv_at hl 0 rfl) ?_
    refine lv_dup hx hb dX6_must_21 rfl ?_
    refine g_get F inG6 hw 0 rfl rfl 3 (by decide) t_733 (fun _ h9 => h9) rfl dX6_must_22 ?_
    refine lv_aload_n hx hb dX6_must_25 rfl (lv_at hl 0 rfl) ?_
    refine g_get F inG6 hw 0 rfl rfl 4 (by decide) t_734 (fun _ h9 => h9) rfl dX6_must_26 ?_
    obtain ⟨x9, h15, h16⟩ := ob1 h14
    clear h14
    have kont10 : ∀ (H : Heap) (locs : List Loc) (ls : Array Slot), Wd d A s.heap (wM cy m0 m1 m2 m3 m4 m5 m6 m7 m8 m9 m10 m_now m_tape m_typed m_place x3 m_readWet m_readHarvest m_read m_undone m_undos m_bestGain m_aside m_kept m_keptUndos m_isKept m_lanes m_sizes m_items m_moved) H locs → lv_has ls 2 [] → W p l e (rmo 0 0) s m args below meth c H locs 0 0 Q (F0 m 37 ls [.int x9, .int m_place, .ref m0]) := by
      intro H locs ls hw hl
      clear h15
      refine lv_iadd hx hb dX6_must_37 ?_
      refine g_put F inG6 tyX6 tyX6_ok nmX6 hw 0 rfl rfl 3 (by decide) t_733 (fun _ h9 => h9) rfl (ty := .int) (by decide +kernel) rfl rfl (Nat.le_of_ble_eq_true rfl) dX6_must_38 (w' := wM cy m0 m1 m2 m3 m4 m5 m6 m7 m8 m9 m10 m_now m_tape m_typed (m_place + x9) x3 m_readWet m_readHarvest m_read m_undone m_undos m_bestGain m_aside m_kept m_keptUndos m_isKept m_lanes m_sizes m_items m_moved) rfl (fun H locs hw => ?_)
      obtain ⟨rfl, rfl⟩ := inj2 h16
      exact hret _ _ _ _ hw dX6_must_41
    clear h16
    refine lv_if_eq (tgt := 36) hx hb dX6_must_29 (by decide) (fun c11 => ?_) (fun c11 => ?_)
    · rw [if_pos c11] at h15
      refine lv_iconst (v := 1) hx hb dX6_must_36 (by decide) ?_
      obtain rfl := inj1 h15
      exact kont10 _ _ _ hw (lv_sub hl [] rfl)
    · rw [if_neg c11] at h15
      refine lv_iconst (v := 0) hx hb dX6_must_32 (by decide) ?_
      refine lv_goto (tgt := 37) hx hb dX6_must_33 (by decide) ?_
      obtain rfl := inj1 h15
      exact kont10 _ _ _ hw (lv_sub hl [] rfl)
  clear h13
  refine lv_if_ne (tgt := 12) hx hb dX6_must_5 (by decide) (fun c5 => ?_) (fun c5 => ?_)
  · rw [if_neg c5] at h12
    refine lv_iconst (v := 1) hx hb dX6_must_12 (by decide) ?_
    refine lv_goto (tgt := 17) hx hb dX6_must_13 (by decide) ?_
    obtain rfl := inj1 h12
    exact kont4 _ _ _ hw (lv_sub hl [0] rfl)
  · rw [if_pos c5] at h12
    refine lv_iload_n hx hb dX6_must_8 rfl (lv_at hl 1 rfl) ?_
    refine lv_if_ne (tgt := 16) hx hb dX6_must_9 (by decide) (fun c6 => ?_) (fun c6 => ?_)
    · rw [if_neg c6] at h12
      refine lv_iconst (v := 0) hx hb dX6_must_16 (by decide) ?_
      obtain rfl := inj1 h12
      exact kont4 _ _ _ hw (lv_sub hl [0] rfl)
    · rw [if_pos c6] at h12
      refine lv_iconst (v := 1) hx hb dX6_must_12 (by decide) ?_
      refine lv_goto (tgt := 17) hx hb dX6_must_13 (by decide) ?_
      obtain rfl := inj1 h12
      exact kont4 _ _ _ hw (lv_sub hl [0] rfl)
theorem cal_X6_number : CalV yX6_number cX6_number 4 (some .int) RX6 0 := ⟨t_903, t_902, t_19, t_43, by decide +kernel⟩
set_option maxHeartbeats 4000000 in
set_option maxRecDepth 100000 in
theorem cX6_number_ok (l : Launch) (d : va_G) (cy : Nat → ClassId) (m0 m1 m2 m3 m4 m5 m6 m7 m8 m9 m10 : Nat) (m_now : Nat → Int32) (m_tape : Nat → Int32) (m_typed : Int32) (m_place : Int32) (m_isFault : Int32) (m_readWet : Int32) (m_readHarvest : Int32) (m_read : Nat → Int32) (m_undone : Nat → Int32) (m_undos : Int32) (m_bestGain : Int32) (m_aside : Nat → Int32) (m_kept : Nat → Int32) (m_keptUndos : Int32) (m_isKept : Int32) (m_lanes : Nat → Int32) (m_sizes : Nat → Int32) (m_items : Nat → Int64) (m_moved : Nat → Int64) (r : Int32) (m_place_r : Int32) (m_isFault_r : Int32) (h0 : fX6_number m_tape m_typed m_place m_isFault = some (r, m_place_r, m_isFault_r)) : CI l yX6_number cX6_number 4 (some .int) 1 25 d cy [.ref m0] (wM cy m0 m1 m2 m3 m4 m5 m6 m7 m8 m9 m10 m_now m_tape m_typed m_place m_isFault m_readWet m_readHarvest m_read m_undone m_undos m_bestGain m_aside m_kept m_keptUndos m_isKept m_lanes m_sizes m_items m_moved) (wM cy m0 m1 m2 m3 m4 m5 m6 m7 m8 m9 m10 m_now m_tape m_typed m_place_r m_isFault_r m_readWet m_readHarvest m_read m_undone m_undos m_bestGain m_aside m_kept m_keptUndos m_isKept m_lanes m_sizes m_items m_moved) r := by
  refine CI.of (by decide) (Nat.le_of_ble_eq_true rfl) ?_
  intro p e s m args below meth c A ls Q F hret hw hl
  have hx := F.1
  have hb := F.2.1
  have hl : lv_has ls 4 [(0, .ref m0)] := hl
  rw [fX6_number] at h0
  refine lv_aload_n hx hb dX6_number_0 rfl (lv_at hl 0 rfl) ?_
  refine g_get F inG6 hw 0 rfl rfl 4 (by decide) t_734 (fun _ h9 => h9) rfl dX6_number_1 ?_
  obtain ⟨x5, x6, h56, h57⟩ := ob2 h0
  clear h0
  have kont7 : ∀ (H : Heap) (locs : List Loc) (ls : Array Slot), Wd d A s.heap (wM cy m0 m1 m2 m3 m4 m5 m6 m7 m8 m9 m10 m_now m_tape m_typed x5 m_isFault m_readWet m_readHarvest m_read m_undone m_undos m_bestGain m_aside m_kept m_keptUndos m_isKept m_lanes m_sizes m_items m_moved) H locs → lv_has ls 4 [(0, .ref m0)] → W p l e (rmo 1 25) s m args below meth c H locs 0 0 Q (F0 m 15 ls [.int x6]) := by
    intro H locs ls hw hl
    clear h56
    refine lv_istore_n (lv' := [(1, .int x6), (0, .ref m0)]) hx hb dX6_number_15 rfl hl (by decide) rfl (fun ls hl => ?_)
    refine lv_aload_n hx hb dX6_number_16 rfl (lv_at hl 1 rfl) ?_
    refine g_get F inG6 hw 0 rfl rfl 3 (by decide) t_733 (fun _ h9 => h9) rfl dX6_number_17 ?_
    refine lv_istore_n (lv' := [(2, .int x5), (1, .int x6), (0, .ref m0)]) hx hb dX6_number_20 rfl hl (by decide) rfl (fun ls hl => ?_)
    refine lv_iconst (v := 0) hx hb dX6_number_21 (by decide) ?_
    refine lv_istore_n (lv' := [(3, .int 0), (2, .int x5), (1, .int x6), (0, .ref m0)]) hx hb dX6_number_22 rfl hl (by decide) rfl (fun ls hl => ?_)
    refine lv_aload_n hx hb dX6_number_23 rfl (lv_at hl 3 rfl) ?_
    refine lv_aload_n hx hb dX6_number_24 rfl (lv_at hl 3 rfl) ?_
    refine g_get F inG6 hw 0 rfl rfl 4 (by decide) t_734 (fun _ h9 => h9) rfl dX6_number_25 ?_
    obtain ⟨x16, h58, h59⟩ := ob1 h57
    clear h57
    have kont17 : ∀ (H : Heap) (locs : List Loc) (ls : Array Slot), Wd d A s.heap (wM cy m0 m1 m2 m3 m4 m5 m6 m7 m8 m9 m10 m_now m_tape m_typed x5 m_isFault m_readWet m_readHarvest m_read m_undone m_undos m_bestGain m_aside m_kept m_keptUndos m_isKept m_lanes m_sizes m_items m_moved) H locs → lv_has ls 4 [(0, .ref m0), (2, .int x5), (3, .int 0)] → W p l e (rmo 1 25) s m args below meth c H locs 0 0 Q (F0 m 50 ls [.int x16, .ref m0]) := by
      intro H locs ls hw hl
      clear h58
      obtain ⟨k22, h60⟩ := ob0 h59
      clear h59
      refine g_put F inG6 tyX6 tyX6_ok nmX6 hw 0 rfl rfl 4 (by decide) t_734 (fun _ h9 => h9) rfl (ty := .boolean) (by decide +kernel) (isb_nar k22) (isb_fit k22) (Nat.le_of_ble_eq_true rfl) dX6_number_50 (w' := wM cy m0 m1 m2 m3 m4 m5 m6 m7 m8 m9 m10 m_now m_tape m_typed x5 x16 m_readWet m_readHarvest m_read m_undone m_undos m_bestGain m_aside m_kept m_keptUndos m_isKept m_lanes m_sizes m_items m_moved) rfl (fun H locs hw => ?_)
      obtain ⟨o46, o47, h61, h62⟩ := ob2 h60
      clear h60
      have kont43 : ∀ (H : Heap) (locs : List Loc) (ls : Array Slot), Wd d A s.heap (wM cy m0 m1 m2 m3 m4 m5 m6 m7 m8 m9 m10 m_now m_tape m_typed o46 x16 m_readWet m_readHarvest m_read m_undone m_undos m_bestGain m_aside m_kept m_keptUndos m_isKept m_lanes m_sizes m_items m_moved) H locs → lv_has ls 4 [(3, .int o47)] → W p l e (rmo 1 25) s m args below meth c H locs 0 0 Q (F0 m 134 ls []) := by
        intro H locs ls hw hl
        clear h61
        refine lv_iload_n hx hb dX6_number_134 rfl (lv_at hl 0 rfl) ?_
        obtain ⟨rfl, rfl, rfl⟩ := inj3 h62
        exact hret _ _ _ _ hw dX6_number_135
      clear h62
      have loop45 : ∀ (n : Nat) (v41 : Int32) (v42 : Int32) (H : Heap) (locs : List Loc) (ls : Array Slot), Wd d A s.heap (wM cy m0 m1 m2 m3 m4 m5 m6 m7 m8 m9 m10 m_now m_tape m_typed v42 x16 m_readWet m_readHarvest m_read m_undone m_undos m_bestGain m_aside m_kept m_keptUndos m_isKept m_lanes m_sizes m_items m_moved) H locs → lv_has ls 4 [(0, .ref m0), (2, .int x5), (3, .int v41)] → fX6_number_L53 m_tape m_typed x5 x16 n v41 v42 = some (o46, o47) → W p l e (rmo 1 25) s m args below meth c H locs 0 0 Q (F0 m 53 ls []) := by
        intro n
        induction n with
        | zero =>
          intro v41 v42 H locs ls hw hl h63
          rw [fX6_number_L53] at h63
          cases h63
        | succ n ih44 =>
          intro v41 v42 H locs ls hw hl h64
          rw [fX6_number_L53] at h64
          refine lv_aload_n hx hb dX6_number_53 rfl (lv_at hl 0 rfl) ?_
          refine g_get F inG6 hw 0 rfl rfl 4 (by decide) t_734 (fun _ h9 => h9) rfl dX6_number_54 ?_
          refine lv_if_ne (tgt := 134) hx hb dX6_number_57 (by decide) (fun c48 => ?_) (fun c48 => ?_)
          · rw [if_neg c48] at h64
            obtain ⟨rfl, rfl⟩ := inj2 h64
            exact kont43 _ _ _ hw (lv_sub hl [2] rfl)
          · rw [if_pos c48] at h64
            refine lv_aload_n hx hb dX6_number_60 rfl (lv_at hl 0 rfl) ?_
            refine g_get F inG6 hw 0 rfl rfl 3 (by decide) t_733 (fun _ h9 => h9) rfl dX6_number_61 ?_
            refine lv_aload_n hx hb dX6_number_64 rfl (lv_at hl 0 rfl) ?_
            refine g_get F inG6 hw 0 rfl rfl 2 (by decide) t_732 (fun _ h9 => h9) rfl dX6_number_65 ?_
            refine lv_icmp_ge (tgt := 134) hx hb dX6_number_68 (by decide) (fun c49 => ?_) (fun c49 => ?_)
            · rw [if_pos c49] at h64
              obtain ⟨rfl, rfl⟩ := inj2 h64
              exact kont43 _ _ _ hw (lv_sub hl [2] rfl)
            · rw [if_neg c49] at h64
              refine lv_aload_n hx hb dX6_number_71 rfl (lv_at hl 0 rfl) ?_
              refine g_get F inG6 hw 0 rfl rfl 3 (by decide) t_733 (fun _ h9 => h9) rfl dX6_number_72 ?_
              refine lv_iload_n hx hb dX6_number_75 rfl (lv_at hl 1 rfl) ?_
              refine lv_isub hx hb dX6_number_76 ?_
              refine lv_iconst (v := 2) hx hb dX6_number_77 (by decide) ?_
              refine lv_icmp_ge (tgt := 134) hx hb dX6_number_78 (by decide) (fun c50 => ?_) (fun c50 => ?_)
              · rw [if_pos c50] at h64
                obtain ⟨rfl, rfl⟩ := inj2 h64
                exact kont43 _ _ _ hw (lv_sub hl [2] rfl)
              · rw [if_neg c50] at h64
                refine lv_aload_n hx hb dX6_number_81 rfl (lv_at hl 0 rfl) ?_
                refine g_get F inG6 hw 0 rfl rfl 1 (by decide) t_731 (fun _ h9 => h9) rfl dX6_number_82 ?_
                refine lv_aload_n hx hb dX6_number_85 rfl (lv_at hl 0 rfl) ?_
                refine g_get F inG6 hw 0 rfl rfl 3 (by decide) t_733 (fun _ h9 => h9) rfl dX6_number_86 ?_
                obtain ⟨j51, k52, h65⟩ := ob1 h64
                clear h64
                refine g_iald F hw 2 rfl k52 dX6_number_89 ?_
                refine lv_i2l hx hb dX6_number_90 rfl ?_
                refine lv_ldc2 (v := 48) hx hb F.2.2.2.2.2.1 (F.2.2.2.2.2.2.1 _ t_904) dX6_number_91 ?_
                refine lv_ldc2 (v := 57) hx hb F.2.2.2.2.2.1 (F.2.2.2.2.2.2.1 _ t_905) dX6_number_94 ?_
                obtain ⟨r53, k54, h66⟩ := ob1 h65
                clear h65
                refine g_si F (cX6_in_ok l d cy (Int32.toInt64 (m_tape j51)) 48 57 r53 k54) cal_X6_in t_793 rfl ⟨by decide, by decide⟩ hw (w' := wM cy m0 m1 m2 m3 m4 m5 m6 m7 m8 m9 m10 m_now m_tape m_typed v42 x16 m_readWet m_readHarvest m_read m_undone m_undos m_bestGain m_aside m_kept m_keptUndos m_isKept m_lanes m_sizes m_items m_moved) Cut.nil hl.1 (Nat.le_of_ble_eq_true rfl) rfl dX6_number_97 (fun H locs hw => ?_)
                refine lv_if_eq (tgt := 134) hx hb dX6_number_100 (by decide) (fun c55 => ?_) (fun c55 => ?_)
                · rw [if_pos c55] at h66
                  obtain ⟨rfl, rfl⟩ := inj2 h66
                  exact kont43 _ _ _ hw (lv_sub hl [2] rfl)
                · rw [if_neg c55] at h66
                  refine lv_bipush (v := 10) hx hb dX6_number_103 (by decide) ?_
                  refine lv_iload_n hx hb dX6_number_105 rfl (lv_at hl 2 rfl) ?_
                  refine lv_imul hx hb dX6_number_106 ?_
                  refine lv_aload_n hx hb dX6_number_107 rfl (lv_at hl 0 rfl) ?_
                  refine g_get F inG6 hw 0 rfl rfl 1 (by decide) t_731 (fun _ h9 => h9) rfl dX6_number_108 ?_
                  refine lv_aload_n hx hb dX6_number_111 rfl (lv_at hl 0 rfl) ?_
                  refine g_get F inG6 hw 0 rfl rfl 3 (by decide) t_733 (fun _ h9 => h9) rfl dX6_number_112 ?_
                  refine g_iald F hw 2 rfl k52 dX6_number_115 ?_
                  refine lv_iadd hx hb dX6_number_116 ?_
                  refine lv_bipush (v := 48) hx hb dX6_number_117 (by decide) ?_
                  refine lv_isub hx hb dX6_number_119 ?_
                  refine lv_istore_n (lv' := [(3, .int (((10 * v41) + (m_tape j51)) - 48)), (0, .ref m0), (2, .int x5)]) hx hb dX6_number_120 rfl hl (by decide) rfl (fun ls hl => ?_)
                  refine lv_aload_n hx hb dX6_number_121 rfl (lv_at hl 1 rfl) ?_
                  refine lv_dup hx hb dX6_number_122 rfl ?_
                  refine g_get F inG6 hw 0 rfl rfl 3 (by decide) t_733 (fun _ h9 => h9) rfl dX6_number_123 ?_
                  refine lv_iconst (v := 1) hx hb dX6_number_126 (by decide) ?_
                  refine lv_iadd hx hb dX6_number_127 ?_
                  refine g_put F inG6 tyX6 tyX6_ok nmX6 hw 0 rfl rfl 3 (by decide) t_733 (fun _ h9 => h9) rfl (ty := .int) (by decide +kernel) rfl rfl (Nat.le_of_ble_eq_true rfl) dX6_number_128 (w' := wM cy m0 m1 m2 m3 m4 m5 m6 m7 m8 m9 m10 m_now m_tape m_typed (v42 + 1) x16 m_readWet m_readHarvest m_read m_undone m_undos m_bestGain m_aside m_kept m_keptUndos m_isKept m_lanes m_sizes m_items m_moved) rfl (fun H locs hw => ?_)
                  refine lv_goto (tgt := 53) hx hb dX6_number_131 (by decide) ?_
                  exact ih44 (((10 * v41) + (m_tape j51)) - 48) (v42 + 1) _ _ _ hw (lv_sub hl [1, 2, 0] rfl) h66
      exact loop45 fl 0 x5 _ _ _ hw (lv_sub hl [0, 1, 2] rfl) h61
    clear h59
    refine lv_if_ne (tgt := 45) hx hb dX6_number_28 (by decide) (fun c18 => ?_) (fun c18 => ?_)
    · rw [if_neg c18] at h58
      refine lv_iconst (v := 1) hx hb dX6_number_45 (by decide) ?_
      refine lv_goto (tgt := 50) hx hb dX6_number_46 (by decide) ?_
      obtain rfl := inj1 h58
      exact kont17 _ _ _ hw (lv_sub hl [3, 1, 0] rfl)
    · rw [if_pos c18] at h58
      refine lv_iload_n hx hb dX6_number_31 rfl (lv_at hl 2 rfl) ?_
      refine lv_i2l hx hb dX6_number_32 rfl ?_
      refine lv_ldc2 (v := 48) hx hb F.2.2.2.2.2.1 (F.2.2.2.2.2.2.1 _ t_904) dX6_number_33 ?_
      refine lv_ldc2 (v := 57) hx hb F.2.2.2.2.2.1 (F.2.2.2.2.2.2.1 _ t_905) dX6_number_36 ?_
      obtain ⟨r19, k20, h67⟩ := ob1 h58
      clear h58
      refine g_si F (cX6_in_ok l d cy (Int32.toInt64 x6) 48 57 r19 k20) cal_X6_in t_793 rfl ⟨by decide, by decide⟩ hw (w' := wM cy m0 m1 m2 m3 m4 m5 m6 m7 m8 m9 m10 m_now m_tape m_typed x5 m_isFault m_readWet m_readHarvest m_read m_undone m_undos m_bestGain m_aside m_kept m_keptUndos m_isKept m_lanes m_sizes m_items m_moved) Cut.nil hl.1 (Nat.le_of_ble_eq_true rfl) rfl dX6_number_39 (fun H locs hw => ?_)
      refine lv_if_ne (tgt := 49) hx hb dX6_number_42 (by decide) (fun c21 => ?_) (fun c21 => ?_)
      · rw [if_neg c21] at h67
        refine lv_iconst (v := 0) hx hb dX6_number_49 (by decide) ?_
        obtain rfl := inj1 h67
        exact kont17 _ _ _ hw (lv_sub hl [3, 1, 0] rfl)
      · rw [if_pos c21] at h67
        refine lv_iconst (v := 1) hx hb dX6_number_45 (by decide) ?_
        refine lv_goto (tgt := 50) hx hb dX6_number_46 (by decide) ?_
        obtain rfl := inj1 h67
        exact kont17 _ _ _ hw (lv_sub hl [3, 1, 0] rfl)
  clear h57
  refine lv_if_eq (tgt := 11) hx hb dX6_number_4 (by decide) (fun c8 => ?_) (fun c8 => ?_)
  · rw [if_pos c8] at h56
    refine lv_aload_n hx hb dX6_number_11 rfl (lv_at hl 0 rfl) ?_
    obtain ⟨r9, x10, k11, h68⟩ := ob2 h56
    clear h56
    refine g_vi F (cX6_here_ok l d cy m0 m1 m2 m3 m4 m5 m6 m7 m8 m9 m10 m_now m_tape m_typed m_place m_isFault m_readWet m_readHarvest m_read m_undone m_undos m_bestGain m_aside m_kept m_keptUndos m_isKept m_lanes m_sizes m_items m_moved r9 x10 k11) cal_X6_here t_888 rfl ⟨by decide, by decide⟩ hw (w' := wM cy m0 m1 m2 m3 m4 m5 m6 m7 m8 m9 m10 m_now m_tape m_typed x10 m_isFault m_readWet m_readHarvest m_read m_undone m_undos m_bestGain m_aside m_kept m_keptUndos m_isKept m_lanes m_sizes m_items m_moved) Cut.all 0 6 rfl rfl hl.1 (Nat.le_of_ble_eq_true rfl) rfl dX6_number_12 (fun H locs hw => ?_)
    obtain ⟨rfl, rfl⟩ := inj2 h68
    exact kont7 _ _ _ hw (lv_sub hl [0] rfl)
  · rw [if_neg c8] at h56
    refine lv_iconst (v := 0) hx hb dX6_number_7 (by decide) ?_
    refine lv_goto (tgt := 15) hx hb dX6_number_8 (by decide) ?_
    obtain ⟨rfl, rfl⟩ := inj2 h56
    exact kont7 _ _ _ hw (lv_sub hl [0] rfl)
theorem cal_X6_letters : CalV yX6_letters cX6_letters 4 (some .int) RX6 1 := ⟨t_909, t_908, t_20, t_43, by decide +kernel⟩
set_option maxHeartbeats 4000000 in
set_option maxRecDepth 100000 in
theorem cX6_letters_ok (l : Launch) (d : va_G) (cy : Nat → ClassId) (m0 m1 m2 m3 m4 m5 m6 m7 m8 m9 m10 : Nat) (m_now : Nat → Int32) (m_tape : Nat → Int32) (m_typed : Int32) (m_place : Int32) (m_isFault : Int32) (m_readWet : Int32) (m_readHarvest : Int32) (m_read : Nat → Int32) (m_undone : Nat → Int32) (m_undos : Int32) (m_bestGain : Int32) (m_aside : Nat → Int32) (m_kept : Nat → Int32) (m_keptUndos : Int32) (m_isKept : Int32) (m_lanes : Nat → Int32) (m_sizes : Nat → Int32) (m_items : Nat → Int64) (m_moved : Nat → Int64) (i1 : Int32) (r : Int32) (m_place_r : Int32) (m_isFault_r : Int32) (h0 : fX6_letters m_tape m_typed m_place m_isFault i1 = some (r, m_place_r, m_isFault_r)) : CI l yX6_letters cX6_letters 4 (some .int) 2 45 d cy [.ref m0, .int i1] (wM cy m0 m1 m2 m3 m4 m5 m6 m7 m8 m9 m10 m_now m_tape m_typed m_place m_isFault m_readWet m_readHarvest m_read m_undone m_undos m_bestGain m_aside m_kept m_keptUndos m_isKept m_lanes m_sizes m_items m_moved) (wM cy m0 m1 m2 m3 m4 m5 m6 m7 m8 m9 m10 m_now m_tape m_typed m_place_r m_isFault_r m_readWet m_readHarvest m_read m_undone m_undos m_bestGain m_aside m_kept m_keptUndos m_isKept m_lanes m_sizes m_items m_moved) r := by
  refine CI.of (by decide) (Nat.le_of_ble_eq_true rfl) ?_
  intro p e s m args below meth c A ls Q F hret hw hl
  have hx := F.1
  have hb := F.2.1
  have hl : lv_has ls 4 [(0, .ref m0), (1, .int i1)] := hl
  rw [fX6_letters] at h0
  refine lv_aload_n hx hb dX6_letters_0 rfl (lv_at hl 0 rfl) ?_
  refine g_get F inG6 hw 0 rfl rfl 4 (by decide) t_734 (fun _ h9 => h9) rfl dX6_letters_1 ?_
  refine lv_if_ne (tgt := 15) hx hb dX6_letters_4 (by decide) (fun c1 => ?_) (fun c1 => ?_)
  · rw [if_neg c1] at h0
    refine lv_iconst (v := 0) hx hb dX6_letters_15 (by decide) ?_
    obtain ⟨rfl, rfl, rfl⟩ := inj3 h0
    exact hret _ _ _ _ hw dX6_letters_16
  · rw [if_pos c1] at h0
    refine lv_aload_n hx hb dX6_letters_7 rfl (lv_at hl 0 rfl) ?_
    obtain ⟨r2, x3, k4, h51⟩ := ob2 h0
    clear h0
    refine g_vi F (cX6_here_ok l d cy m0 m1 m2 m3 m4 m5 m6 m7 m8 m9 m10 m_now m_tape m_typed m_place m_isFault m_readWet m_readHarvest m_read m_undone m_undos m_bestGain m_aside m_kept m_keptUndos m_isKept m_lanes m_sizes m_items m_moved r2 x3 k4) cal_X6_here t_888 rfl ⟨by decide, by decide⟩ hw (w' := wM cy m0 m1 m2 m3 m4 m5 m6 m7 m8 m9 m10 m_now m_tape m_typed x3 m_isFault m_readWet m_readHarvest m_read m_undone m_undos m_bestGain m_aside m_kept m_keptUndos m_isKept m_lanes m_sizes m_items m_moved) Cut.all 0 6 rfl rfl hl.1 (Nat.le_of_ble_eq_true rfl) rfl dX6_letters_8 (fun H locs hw => ?_)
    refine lv_iload_n hx hb dX6_letters_11 rfl (lv_at hl 1 rfl) ?_
    refine lv_icmp_eq (tgt := 17) hx hb dX6_letters_12 (by decide) (fun c5 => ?_) (fun c5 => ?_)
    · rw [if_pos c5] at h51
      refine lv_aload_n hx hb dX6_letters_17 rfl (lv_at hl 0 rfl) ?_
      refine lv_dup hx hb dX6_letters_18 rfl ?_
      refine g_get F inG6 hw 0 rfl rfl 3 (by decide) t_733 (fun _ h9 => h9) rfl dX6_letters_19 ?_
      refine lv_iconst (v := 1) hx hb dX6_letters_22 (by decide) ?_
      refine lv_iadd hx hb dX6_letters_23 ?_
      refine g_put F inG6 tyX6 tyX6_ok nmX6 hw 0 rfl rfl 3 (by decide) t_733 (fun _ h9 => h9) rfl (ty := .int) (by decide +kernel) rfl rfl (Nat.le_of_ble_eq_true rfl) dX6_letters_24 (w' := wM cy m0 m1 m2 m3 m4 m5 m6 m7 m8 m9 m10 m_now m_tape m_typed (x3 + 1) m_isFault m_readWet m_readHarvest m_read m_undone m_undos m_bestGain m_aside m_kept m_keptUndos m_isKept m_lanes m_sizes m_items m_moved) rfl (fun H locs hw => ?_)
      refine lv_iconst (v := 0) hx hb dX6_letters_27 (by decide) ?_
      refine lv_istore_n (lv' := [(2, .int 0), (0, .ref m0), (1, .int i1)]) hx hb dX6_letters_28 rfl hl (by decide) rfl (fun ls hl => ?_)
      refine lv_aload_n hx hb dX6_letters_29 rfl (lv_at hl 1 rfl) ?_
      obtain ⟨r6, x7, k8, h52⟩ := ob2 h51
      clear h51
      refine g_vi F (cX6_here_ok l d cy m0 m1 m2 m3 m4 m5 m6 m7 m8 m9 m10 m_now m_tape m_typed (x3 + 1) m_isFault m_readWet m_readHarvest m_read m_undone m_undos m_bestGain m_aside m_kept m_keptUndos m_isKept m_lanes m_sizes m_items m_moved r6 x7 k8) cal_X6_here t_888 rfl ⟨by decide, by decide⟩ hw (w' := wM cy m0 m1 m2 m3 m4 m5 m6 m7 m8 m9 m10 m_now m_tape m_typed x7 m_isFault m_readWet m_readHarvest m_read m_undone m_undos m_bestGain m_aside m_kept m_keptUndos m_isKept m_lanes m_sizes m_items m_moved) Cut.all 0 6 rfl rfl hl.1 (Nat.le_of_ble_eq_true rfl) rfl dX6_letters_30 (fun H locs hw => ?_)
      refine lv_bipush (v := 97) hx hb dX6_letters_33 (by decide) ?_
      refine lv_isub hx hb dX6_letters_35 ?_
      refine lv_istore_n (lv' := [(3, .int (r6 - 97)), (2, .int 0), (0, .ref m0), (1, .int i1)]) hx hb dX6_letters_36 rfl hl (by decide) rfl (fun ls hl => ?_)
      refine lv_aload_n hx hb dX6_letters_37 rfl (lv_at hl 2 rfl) ?_
      refine lv_iload_n hx hb dX6_letters_38 rfl (lv_at hl 0 rfl) ?_
      obtain ⟨r9, k10, h53⟩ := ob1 h52
      clear h52
      refine g_si F (cX6_isHalf_ok l d cy (r6 - 97) r9 k10) cal_X6_isHalf t_854 rfl ⟨by decide, by decide⟩ hw (w' := wM cy m0 m1 m2 m3 m4 m5 m6 m7 m8 m9 m10 m_now m_tape m_typed x7 m_isFault m_readWet m_readHarvest m_read m_undone m_undos m_bestGain m_aside m_kept m_keptUndos m_isKept m_lanes m_sizes m_items m_moved) Cut.nil hl.1 (Nat.le_of_ble_eq_true rfl) rfl dX6_letters_39 (fun H locs hw => ?_)
      obtain ⟨x12, h54, h55⟩ := ob1 h53
      clear h53
      have kont13 : ∀ (H : Heap) (locs : List Loc) (ls : Array Slot), Wd d A s.heap (wM cy m0 m1 m2 m3 m4 m5 m6 m7 m8 m9 m10 m_now m_tape m_typed x7 m_isFault m_readWet m_readHarvest m_read m_undone m_undos m_bestGain m_aside m_kept m_keptUndos m_isKept m_lanes m_sizes m_items m_moved) H locs → lv_has ls 4 [(0, .ref m0), (2, .int 0), (3, .int (r6 - 97))] → W p l e (rmo 2 45) s m args below meth c H locs 0 0 Q (F0 m 50 ls [.int x12, .ref m0]) := by
        intro H locs ls hw hl
        clear h54
        obtain ⟨k15, h56⟩ := ob0 h55
        clear h55
        refine g_put F inG6 tyX6 tyX6_ok nmX6 hw 0 rfl rfl 4 (by decide) t_734 (fun _ h9 => h9) rfl (ty := .boolean) (by decide +kernel) (isb_nar k15) (isb_fit k15) (Nat.le_of_ble_eq_true rfl) dX6_letters_50 (w' := wM cy m0 m1 m2 m3 m4 m5 m6 m7 m8 m9 m10 m_now m_tape m_typed x7 x12 m_readWet m_readHarvest m_read m_undone m_undos m_bestGain m_aside m_kept m_keptUndos m_isKept m_lanes m_sizes m_items m_moved) rfl (fun H locs hw => ?_)
        obtain ⟨o41, o42, h57, h58⟩ := ob2 h56
        clear h56
        have kont38 : ∀ (H : Heap) (locs : List Loc) (ls : Array Slot), Wd d A s.heap (wM cy m0 m1 m2 m3 m4 m5 m6 m7 m8 m9 m10 m_now m_tape m_typed o41 x12 m_readWet m_readHarvest m_read m_undone m_undos m_bestGain m_aside m_kept m_keptUndos m_isKept m_lanes m_sizes m_items m_moved) H locs → lv_has ls 4 [(2, .int o42)] → W p l e (rmo 2 45) s m args below meth c H locs 0 0 Q (F0 m 101 ls []) := by
          intro H locs ls hw hl
          clear h57
          refine lv_iload_n hx hb dX6_letters_101 rfl (lv_at hl 0 rfl) ?_
          obtain ⟨rfl, rfl, rfl⟩ := inj3 h58
          exact hret _ _ _ _ hw dX6_letters_102
        clear h58
        have loop40 : ∀ (n : Nat) (v35 : Int32) (v36 : Int32) (v37 : Int32) (H : Heap) (locs : List Loc) (ls : Array Slot), Wd d A s.heap (wM cy m0 m1 m2 m3 m4 m5 m6 m7 m8 m9 m10 m_now m_tape m_typed v37 x12 m_readWet m_readHarvest m_read m_undone m_undos m_bestGain m_aside m_kept m_keptUndos m_isKept m_lanes m_sizes m_items m_moved) H locs → lv_has ls 4 [(0, .ref m0), (2, .int v35), (3, .int v36)] → fX6_letters_L53 m_tape m_typed x12 n v35 v36 v37 = some (o41, o42) → W p l e (rmo 2 45) s m args below meth c H locs 0 0 Q (F0 m 53 ls []) := by
          intro n
          induction n with
          | zero =>
            intro v35 v36 v37 H locs ls hw hl h59
            rw [fX6_letters_L53] at h59
            cases h59
          | succ n ih39 =>
            intro v35 v36 v37 H locs ls hw hl h60
            rw [fX6_letters_L53] at h60
            refine lv_aload_n hx hb dX6_letters_53 rfl (lv_at hl 0 rfl) ?_
            refine g_get F inG6 hw 0 rfl rfl 4 (by decide) t_734 (fun _ h9 => h9) rfl dX6_letters_54 ?_
            refine lv_if_ne (tgt := 101) hx hb dX6_letters_57 (by decide) (fun c43 => ?_) (fun c43 => ?_)
            · rw [if_neg c43] at h60
              obtain ⟨rfl, rfl⟩ := inj2 h60
              exact kont38 _ _ _ hw (lv_sub hl [1] rfl)
            · rw [if_pos c43] at h60
              refine lv_iload_n hx hb dX6_letters_60 rfl (lv_at hl 2 rfl) ?_
              obtain ⟨r44, k45, h61⟩ := ob1 h60
              clear h60
              refine g_si F (cX6_isHalf_ok l d cy v36 r44 k45) cal_X6_isHalf t_854 rfl ⟨by decide, by decide⟩ hw (w' := wM cy m0 m1 m2 m3 m4 m5 m6 m7 m8 m9 m10 m_now m_tape m_typed v37 x12 m_readWet m_readHarvest m_read m_undone m_undos m_bestGain m_aside m_kept m_keptUndos m_isKept m_lanes m_sizes m_items m_moved) Cut.nil hl.1 (Nat.le_of_ble_eq_true rfl) rfl dX6_letters_61 (fun H locs hw => ?_)
              refine lv_if_eq (tgt := 101) hx hb dX6_letters_64 (by decide) (fun c46 => ?_) (fun c46 => ?_)
              · rw [if_pos c46] at h61
                obtain ⟨rfl, rfl⟩ := inj2 h61
                exact kont38 _ _ _ hw (lv_sub hl [1] rfl)
              · rw [if_neg c46] at h61
                refine lv_iconst (v := 1) hx hb dX6_letters_67 (by decide) ?_
                refine lv_iload_n hx hb dX6_letters_68 rfl (lv_at hl 2 rfl) ?_
                refine lv_ishl hx hb dX6_letters_69 ?_
                refine lv_iload_n hx hb dX6_letters_70 rfl (lv_at hl 1 rfl) ?_
                refine lv_icmp_le (tgt := 101) hx hb dX6_letters_71 (by decide) (fun c47 => ?_) (fun c47 => ?_)
                · rw [if_pos c47] at h61
                  obtain ⟨rfl, rfl⟩ := inj2 h61
                  exact kont38 _ _ _ hw (lv_sub hl [1] rfl)
                · rw [if_neg c47] at h61
                  refine lv_iload_n hx hb dX6_letters_74 rfl (lv_at hl 1 rfl) ?_
                  refine lv_iconst (v := 1) hx hb dX6_letters_75 (by decide) ?_
                  refine lv_iload_n hx hb dX6_letters_76 rfl (lv_at hl 2 rfl) ?_
                  refine lv_ishl hx hb dX6_letters_77 ?_
                  refine lv_ior hx hb dX6_letters_78 ?_
                  refine lv_istore_n (lv' := [(2, .int (v35 ||| ((1 : Int32) <<< (v36 &&& 31)))), (0, .ref m0), (3, .int v36)]) hx hb dX6_letters_79 rfl hl (by decide) rfl (fun ls hl => ?_)
                  refine lv_aload_n hx hb dX6_letters_80 rfl (lv_at hl 1 rfl) ?_
                  refine lv_dup hx hb dX6_letters_81 rfl ?_
                  refine g_get F inG6 hw 0 rfl rfl 3 (by decide) t_733 (fun _ h9 => h9) rfl dX6_letters_82 ?_
                  refine lv_iconst (v := 1) hx hb dX6_letters_85 (by decide) ?_
                  refine lv_iadd hx hb dX6_letters_86 ?_
                  refine g_put F inG6 tyX6 tyX6_ok nmX6 hw 0 rfl rfl 3 (by decide) t_733 (fun _ h9 => h9) rfl (ty := .int) (by decide +kernel) rfl rfl (Nat.le_of_ble_eq_true rfl) dX6_letters_87 (w' := wM cy m0 m1 m2 m3 m4 m5 m6 m7 m8 m9 m10 m_now m_tape m_typed (v37 + 1) x12 m_readWet m_readHarvest m_read m_undone m_undos m_bestGain m_aside m_kept m_keptUndos m_isKept m_lanes m_sizes m_items m_moved) rfl (fun H locs hw => ?_)
                  refine lv_aload_n hx hb dX6_letters_90 rfl (lv_at hl 1 rfl) ?_
                  obtain ⟨r48, x49, k50, h62⟩ := ob2 h61
                  clear h61
                  refine g_vi F (cX6_here_ok l d cy m0 m1 m2 m3 m4 m5 m6 m7 m8 m9 m10 m_now m_tape m_typed (v37 + 1) x12 m_readWet m_readHarvest m_read m_undone m_undos m_bestGain m_aside m_kept m_keptUndos m_isKept m_lanes m_sizes m_items m_moved r48 x49 k50) cal_X6_here t_888 rfl ⟨by decide, by decide⟩ hw (w' := wM cy m0 m1 m2 m3 m4 m5 m6 m7 m8 m9 m10 m_now m_tape m_typed x49 x12 m_readWet m_readHarvest m_read m_undone m_undos m_bestGain m_aside m_kept m_keptUndos m_isKept m_lanes m_sizes m_items m_moved) Cut.all 0 6 rfl rfl hl.1 (Nat.le_of_ble_eq_true rfl) rfl dX6_letters_91 (fun H locs hw => ?_)
                  refine lv_bipush (v := 97) hx hb dX6_letters_94 (by decide) ?_
                  refine lv_isub hx hb dX6_letters_96 ?_
                  refine lv_istore_n (lv' := [(3, .int (r48 - 97)), (2, .int (v35 ||| ((1 : Int32) <<< (v36 &&& 31)))), (0, .ref m0)]) hx hb dX6_letters_97 rfl hl (by decide) rfl (fun ls hl => ?_)
                  refine lv_goto (tgt := 53) hx hb dX6_letters_98 (by decide) ?_
                  exact ih39 (v35 ||| ((1 : Int32) <<< (v36 &&& 31))) (r48 - 97) x49 _ _ _ hw (lv_sub hl [2, 1, 0] rfl) h62
        exact loop40 fl 0 (r6 - 97) x7 _ _ _ hw (lv_sub hl [0, 1, 2] rfl) h57
      clear h55
      refine lv_if_ne (tgt := 49) hx hb dX6_letters_42 (by decide) (fun c14 => ?_) (fun c14 => ?_)
      · rw [if_neg c14] at h54
        refine lv_iconst (v := 0) hx hb dX6_letters_49 (by decide) ?_
        obtain rfl := inj1 h54
        exact kont13 _ _ _ hw (lv_sub hl [2, 1, 0] rfl)
      · rw [if_pos c14] at h54
        refine lv_iconst (v := 1) hx hb dX6_letters_45 (by decide) ?_
        refine lv_goto (tgt := 50) hx hb dX6_letters_46 (by decide) ?_
        obtain rfl := inj1 h54
        exact kont13 _ _ _ hw (lv_sub hl [2, 1, 0] rfl)
    · rw [if_neg c5] at h51
      refine lv_iconst (v := 0) hx hb dX6_letters_15 (by decide) ?_
      obtain ⟨rfl, rfl, rfl⟩ := inj3 h51
      exact hret _ _ _ _ hw dX6_letters_16
theorem cal_X6_readSundays : CalV yX6_readSundays cX6_readSundays 3 none RX6 0 := ⟨t_887, t_886, t_15, t_43, by decide +kernel⟩
set_option maxHeartbeats 4000000 in
set_option maxRecDepth 100000 in
theorem cX6_readSundays_ok (l : Launch) (d : va_G) (cy : Nat → ClassId) (m0 m1 m2 m3 m4 m5 m6 m7 m8 m9 m10 : Nat) (m_now : Nat → Int32) (m_tape : Nat → Int32) (m_typed : Int32) (m_place : Int32) (m_isFault : Int32) (m_readWet : Int32) (m_readHarvest : Int32) (m_read : Nat → Int32) (m_undone : Nat → Int32) (m_undos : Int32) (m_bestGain : Int32) (m_aside : Nat → Int32) (m_kept : Nat → Int32) (m_keptUndos : Int32) (m_isKept : Int32) (m_lanes : Nat → Int32) (m_sizes : Nat → Int32) (m_items : Nat → Int64) (m_moved : Nat → Int64) (m_place_r : Int32) (m_isFault_r : Int32) (m_readWet_r : Int32) (m_readHarvest_r : Int32) (h0 : fX6_readSundays m_tape m_typed m_place m_isFault = some (m_place_r, m_isFault_r, m_readWet_r, m_readHarvest_r)) : CV l yX6_readSundays cX6_readSundays 3 none 1 21 d cy [.ref m0] (wM cy m0 m1 m2 m3 m4 m5 m6 m7 m8 m9 m10 m_now m_tape m_typed m_place m_isFault m_readWet m_readHarvest m_read m_undone m_undos m_bestGain m_aside m_kept m_keptUndos m_isKept m_lanes m_sizes m_items m_moved) (wM cy m0 m1 m2 m3 m4 m5 m6 m7 m8 m9 m10 m_now m_tape m_typed m_place_r m_isFault_r m_readWet_r m_readHarvest_r m_read m_undone m_undos m_bestGain m_aside m_kept m_keptUndos m_isKept m_lanes m_sizes m_items m_moved) := by
  refine CV.of (by decide) (Nat.le_of_ble_eq_true rfl) ?_
  intro p e s m args below meth c A ls Q F hret hw hl
  have hx := F.1
  have hb := F.2.1
  have hl : lv_has ls 3 [(0, .ref m0)] := hl
  rw [fX6_readSundays] at h0
  refine lv_aload_n hx hb dX6_readSundays_0 rfl (lv_at hl 0 rfl) ?_
  refine lv_iconst (v := 0) hx hb dX6_readSundays_1 (by decide) ?_
  refine g_put F inG6 tyX6 tyX6_ok nmX6 hw 0 rfl rfl 5 (by decide) t_735 (fun _ h9 => h9) rfl (ty := .int) (by decide +kernel) rfl rfl (Nat.le_of_ble_eq_true rfl) dX6_readSundays_2 (w' := wM cy m0 m1 m2 m3 m4 m5 m6 m7 m8 m9 m10 m_now m_tape m_typed m_place m_isFault 0 m_readHarvest m_read m_undone m_undos m_bestGain m_aside m_kept m_keptUndos m_isKept m_lanes m_sizes m_items m_moved) rfl (fun H locs hw => ?_)
  refine lv_aload_n hx hb dX6_readSundays_5 rfl (lv_at hl 0 rfl) ?_
  refine lv_iconst (v := 0) hx hb dX6_readSundays_6 (by decide) ?_
  refine g_put F inG6 tyX6 tyX6_ok nmX6 hw 0 rfl rfl 6 (by decide) t_736 (fun _ h9 => h9) rfl (ty := .int) (by decide +kernel) rfl rfl (Nat.le_of_ble_eq_true rfl) dX6_readSundays_7 (w' := wM cy m0 m1 m2 m3 m4 m5 m6 m7 m8 m9 m10 m_now m_tape m_typed m_place m_isFault 0 0 m_read m_undone m_undos m_bestGain m_aside m_kept m_keptUndos m_isKept m_lanes m_sizes m_items m_moved) rfl (fun H locs hw => ?_)
  refine lv_iconst (v := 0) hx hb dX6_readSundays_10 (by decide) ?_
  refine lv_istore_n (lv' := [(1, .int 0), (0, .ref m0)]) hx hb dX6_readSundays_11 rfl hl (by decide) rfl (fun ls hl => ?_)
  obtain ⟨o88, o89, o90, o91, h129, h130⟩ := ob4 h0
  clear h0
  have kont85 : ∀ (H : Heap) (locs : List Loc) (ls : Array Slot), Wd d A s.heap (wM cy m0 m1 m2 m3 m4 m5 m6 m7 m8 m9 m10 m_now m_tape m_typed o88 o89 o90 o91 m_read m_undone m_undos m_bestGain m_aside m_kept m_keptUndos m_isKept m_lanes m_sizes m_items m_moved) H locs → lv_has ls 3 [] → W p l e (rmo 1 21) s m args below meth c H locs 0 0 Q (F0 m 129 ls []) := by
    intro H locs ls hw hl
    clear h129
    obtain ⟨rfl, rfl, rfl, rfl⟩ := inj4 h130
    exact hret _ _ _ _ hw dX6_readSundays_129
  clear h130
  have loop87 : ∀ (n : Nat) (v80 : Int32) (v81 : Int32) (v82 : Int32) (v83 : Int32) (v84 : Int32) (H : Heap) (locs : List Loc) (ls : Array Slot), Wd d A s.heap (wM cy m0 m1 m2 m3 m4 m5 m6 m7 m8 m9 m10 m_now m_tape m_typed v82 v81 v84 v83 m_read m_undone m_undos m_bestGain m_aside m_kept m_keptUndos m_isKept m_lanes m_sizes m_items m_moved) H locs → lv_has ls 3 [(0, .ref m0), (1, .int v80)] → fX6_readSundays_L12 m_tape m_typed n v80 v81 v82 v83 v84 = some (o88, o89, o90, o91) → W p l e (rmo 1 21) s m args below meth c H locs 0 0 Q (F0 m 12 ls []) := by
    intro n
    induction n with
    | zero =>
      intro v80 v81 v82 v83 v84 H locs ls hw hl h131
      rw [fX6_readSundays_L12] at h131
      cases h131
    | succ n ih86 =>
      intro v80 v81 v82 v83 v84 H locs ls hw hl h132
      rw [fX6_readSundays_L12] at h132
      refine lv_iload_n hx hb dX6_readSundays_12 rfl (lv_at hl 1 rfl) ?_
      refine lv_bipush (v := 6) hx hb dX6_readSundays_13 (by decide) ?_
      refine lv_icmp_ge (tgt := 129) hx hb dX6_readSundays_15 (by decide) (fun c92 => ?_) (fun c92 => ?_)
      · rw [if_pos c92] at h132
        obtain ⟨rfl, rfl, rfl, rfl⟩ := inj4 h132
        exact kont85 _ _ _ hw (lv_sub hl [] rfl)
      · rw [if_neg c92] at h132
        refine lv_aload_n hx hb dX6_readSundays_18 rfl (lv_at hl 0 rfl) ?_
        refine g_get F inG6 hw 0 rfl rfl 4 (by decide) t_734 (fun _ h9 => h9) rfl dX6_readSundays_19 ?_
        obtain ⟨x97, x98, h133, h134⟩ := ob2 h132
        clear h132
        have kont99 : ∀ (H : Heap) (locs : List Loc) (ls : Array Slot), Wd d A s.heap (wM cy m0 m1 m2 m3 m4 m5 m6 m7 m8 m9 m10 m_now m_tape m_typed x97 v81 v84 v83 m_read m_undone m_undos m_bestGain m_aside m_kept m_keptUndos m_isKept m_lanes m_sizes m_items m_moved) H locs → lv_has ls 3 [(0, .ref m0), (1, .int v80)] → W p l e (rmo 1 21) s m args below meth c H locs 0 0 Q (F0 m 33 ls [.int x98]) := by
          intro H locs ls hw hl
          clear h133
          refine lv_istore_n (lv' := [(2, .int x98), (0, .ref m0), (1, .int v80)]) hx hb dX6_readSundays_33 rfl hl (by decide) rfl (fun ls hl => ?_)
          refine lv_aload_n hx hb dX6_readSundays_34 rfl (lv_at hl 1 rfl) ?_
          refine lv_iload_n hx hb dX6_readSundays_35 rfl (lv_at hl 0 rfl) ?_
          refine lv_bipush (v := 46) hx hb dX6_readSundays_36 (by decide) ?_
          obtain ⟨x108, h135, h136⟩ := ob1 h134
          clear h134
          have kont109 : ∀ (H : Heap) (locs : List Loc) (ls : Array Slot), Wd d A s.heap (wM cy m0 m1 m2 m3 m4 m5 m6 m7 m8 m9 m10 m_now m_tape m_typed x97 v81 v84 v83 m_read m_undone m_undos m_bestGain m_aside m_kept m_keptUndos m_isKept m_lanes m_sizes m_items m_moved) H locs → lv_has ls 3 [(0, .ref m0), (1, .int v80), (2, .int x98)] → W p l e (rmo 1 21) s m args below meth c H locs 0 0 Q (F0 m 64 ls [.int x108, .ref m0]) := by
            intro H locs ls hw hl
            clear h135
            obtain ⟨x114, x115, k116, h137⟩ := ob2 h136
            clear h136
            refine g_vv F (cX6_must_ok l d cy m0 m1 m2 m3 m4 m5 m6 m7 m8 m9 m10 m_now m_tape m_typed x97 v81 v84 v83 m_read m_undone m_undos m_bestGain m_aside m_kept m_keptUndos m_isKept m_lanes m_sizes m_items m_moved x108 x114 x115 k116) cal_X6_must t_892 rfl ⟨by decide, by decide⟩ hw (w' := wM cy m0 m1 m2 m3 m4 m5 m6 m7 m8 m9 m10 m_now m_tape m_typed x114 x115 v84 v83 m_read m_undone m_undos m_bestGain m_aside m_kept m_keptUndos m_isKept m_lanes m_sizes m_items m_moved) Cut.all 0 6 rfl rfl hl.1 (Nat.le_of_ble_eq_true rfl) rfl dX6_readSundays_64 (fun H locs hw => ?_)
            refine lv_aload_n hx hb dX6_readSundays_67 rfl (lv_at hl 0 rfl) ?_
            refine lv_dup hx hb dX6_readSundays_68 rfl ?_
            refine g_get F inG6 hw 0 rfl rfl 5 (by decide) t_735 (fun _ h9 => h9) rfl dX6_readSundays_69 ?_
            refine lv_iload_n hx hb dX6_readSundays_72 rfl (lv_at hl 2 rfl) ?_
            refine lv_bipush (v := 119) hx hb dX6_readSundays_73 (by decide) ?_
            obtain ⟨x119, h138, h139⟩ := ob1 h137
            clear h137
            have kont120 : ∀ (H : Heap) (locs : List Loc) (ls : Array Slot), Wd d A s.heap (wM cy m0 m1 m2 m3 m4 m5 m6 m7 m8 m9 m10 m_now m_tape m_typed x114 x115 v84 v83 m_read m_undone m_undos m_bestGain m_aside m_kept m_keptUndos m_isKept m_lanes m_sizes m_items m_moved) H locs → lv_has ls 3 [(0, .ref m0), (1, .int v80), (2, .int x98)] → W p l e (rmo 1 21) s m args below meth c H locs 0 0 Q (F0 m 91 ls [.int x119, .int v84, .ref m0]) := by
              intro H locs ls hw hl
              clear h138
              refine lv_ior hx hb dX6_readSundays_91 ?_
              refine g_put F inG6 tyX6 tyX6_ok nmX6 hw 0 rfl rfl 5 (by decide) t_735 (fun _ h9 => h9) rfl (ty := .int) (by decide +kernel) rfl rfl (Nat.le_of_ble_eq_true rfl) dX6_readSundays_92 (w' := wM cy m0 m1 m2 m3 m4 m5 m6 m7 m8 m9 m10 m_now m_tape m_typed x114 x115 (v84 ||| x119) v83 m_read m_undone m_undos m_bestGain m_aside m_kept m_keptUndos m_isKept m_lanes m_sizes m_items m_moved) rfl (fun H locs hw => ?_)
              refine lv_aload_n hx hb dX6_readSundays_95 rfl (lv_at hl 0 rfl) ?_
              refine lv_dup hx hb dX6_readSundays_96 rfl ?_
              refine g_get F inG6 hw 0 rfl rfl 6 (by decide) t_736 (fun _ h9 => h9) rfl dX6_readSundays_97 ?_
              refine lv_iload_n hx hb dX6_readSundays_100 rfl (lv_at hl 2 rfl) ?_
              refine lv_bipush (v := 104) hx hb dX6_readSundays_101 (by decide) ?_
              obtain ⟨x125, h140, h141⟩ := ob1 h139
              clear h139
              have kont126 : ∀ (H : Heap) (locs : List Loc) (ls : Array Slot), Wd d A s.heap (wM cy m0 m1 m2 m3 m4 m5 m6 m7 m8 m9 m10 m_now m_tape m_typed x114 x115 (v84 ||| x119) v83 m_read m_undone m_undos m_bestGain m_aside m_kept m_keptUndos m_isKept m_lanes m_sizes m_items m_moved) H locs → lv_has ls 3 [(0, .ref m0), (1, .int v80)] → W p l e (rmo 1 21) s m args below meth c H locs 0 0 Q (F0 m 119 ls [.int x125, .int v83, .ref m0]) := by
                intro H locs ls hw hl
                clear h140
                refine lv_ior hx hb dX6_readSundays_119 ?_
                refine g_put F inG6 tyX6 tyX6_ok nmX6 hw 0 rfl rfl 6 (by decide) t_736 (fun _ h9 => h9) rfl (ty := .int) (by decide +kernel) rfl rfl (Nat.le_of_ble_eq_true rfl) dX6_readSundays_120 (w' := wM cy m0 m1 m2 m3 m4 m5 m6 m7 m8 m9 m10 m_now m_tape m_typed x114 x115 (v84 ||| x119) (v83 ||| x125) m_read m_undone m_undos m_bestGain m_aside m_kept m_keptUndos m_isKept m_lanes m_sizes m_items m_moved) rfl (fun H locs hw => ?_)
                refine lv_iinc (v := (v80 + 1)) (lv' := [(1, .int (v80 + 1)), (0, .ref m0)]) hx hb dX6_readSundays_123 hl (k := 1) rfl rfl (by decide) rfl (fun ls hl => ?_)
                refine lv_goto (tgt := 12) hx hb dX6_readSundays_126 (by decide) ?_
                exact ih86 (v80 + 1) x115 x114 (v83 ||| x125) (v84 ||| x119) _ _ _ hw (lv_sub hl [1, 0] rfl) h141
              clear h141
              refine lv_icmp_eq (tgt := 112) hx hb dX6_readSundays_103 (by decide) (fun c127 => ?_) (fun c127 => ?_)
              · rw [if_pos c127] at h140
                refine lv_iconst (v := 1) hx hb dX6_readSundays_112 (by decide) ?_
                refine lv_iload_n hx hb dX6_readSundays_113 rfl (lv_at hl 1 rfl) ?_
                refine lv_ishl hx hb dX6_readSundays_114 ?_
                refine lv_goto (tgt := 119) hx hb dX6_readSundays_115 (by decide) ?_
                obtain rfl := inj1 h140
                exact kont126 _ _ _ hw (lv_sub hl [0, 1] rfl)
              · rw [if_neg c127] at h140
                refine lv_iload_n hx hb dX6_readSundays_106 rfl (lv_at hl 2 rfl) ?_
                refine lv_bipush (v := 98) hx hb dX6_readSundays_107 (by decide) ?_
                refine lv_icmp_ne (tgt := 118) hx hb dX6_readSundays_109 (by decide) (fun c128 => ?_) (fun c128 => ?_)
                · rw [if_neg c128] at h140
                  refine lv_iconst (v := 0) hx hb dX6_readSundays_118 (by decide) ?_
                  obtain rfl := inj1 h140
                  exact kont126 _ _ _ hw (lv_sub hl [0, 1] rfl)
                · rw [if_pos c128] at h140
                  refine lv_iconst (v := 1) hx hb dX6_readSundays_112 (by decide) ?_
                  refine lv_iload_n hx hb dX6_readSundays_113 rfl (lv_at hl 1 rfl) ?_
                  refine lv_ishl hx hb dX6_readSundays_114 ?_
                  refine lv_goto (tgt := 119) hx hb dX6_readSundays_115 (by decide) ?_
                  obtain rfl := inj1 h140
                  exact kont126 _ _ _ hw (lv_sub hl [0, 1] rfl)
            clear h139
            refine lv_icmp_eq (tgt := 84) hx hb dX6_readSundays_75 (by decide) (fun c121 => ?_) (fun c121 => ?_)
            · rw [if_pos c121] at h138
              refine lv_iconst (v := 1) hx hb dX6_readSundays_84 (by decide) ?_
              refine lv_iload_n hx hb dX6_readSundays_85 rfl (lv_at hl 1 rfl) ?_
              refine lv_ishl hx hb dX6_readSundays_86 ?_
              refine lv_goto (tgt := 91) hx hb dX6_readSundays_87 (by decide) ?_
              obtain rfl := inj1 h138
              exact kont120 _ _ _ hw (lv_sub hl [0, 1, 2] rfl)
            · rw [if_neg c121] at h138
              refine lv_iload_n hx hb dX6_readSundays_78 rfl (lv_at hl 2 rfl) ?_
              refine lv_bipush (v := 98) hx hb dX6_readSundays_79 (by decide) ?_
              refine lv_icmp_ne (tgt := 90) hx hb dX6_readSundays_81 (by decide) (fun c122 => ?_) (fun c122 => ?_)
              · rw [if_neg c122] at h138
                refine lv_iconst (v := 0) hx hb dX6_readSundays_90 (by decide) ?_
                obtain rfl := inj1 h138
                exact kont120 _ _ _ hw (lv_sub hl [0, 1, 2] rfl)
              · rw [if_pos c122] at h138
                refine lv_iconst (v := 1) hx hb dX6_readSundays_84 (by decide) ?_
                refine lv_iload_n hx hb dX6_readSundays_85 rfl (lv_at hl 1 rfl) ?_
                refine lv_ishl hx hb dX6_readSundays_86 ?_
                refine lv_goto (tgt := 91) hx hb dX6_readSundays_87 (by decide) ?_
                obtain rfl := inj1 h138
                exact kont120 _ _ _ hw (lv_sub hl [0, 1, 2] rfl)
          clear h136
          refine lv_icmp_eq (tgt := 59) hx hb dX6_readSundays_38 (by decide) (fun c110 => ?_) (fun c110 => ?_)
          · rw [if_pos c110] at h135
            refine lv_iconst (v := 1) hx hb dX6_readSundays_59 (by decide) ?_
            refine lv_goto (tgt := 64) hx hb dX6_readSundays_60 (by decide) ?_
            obtain rfl := inj1 h135
            exact kont109 _ _ _ hw (lv_sub hl [1, 2, 0] rfl)
          · rw [if_neg c110] at h135
            refine lv_iload_n hx hb dX6_readSundays_41 rfl (lv_at hl 0 rfl) ?_
            refine lv_bipush (v := 119) hx hb dX6_readSundays_42 (by decide) ?_
            refine lv_icmp_eq (tgt := 59) hx hb dX6_readSundays_44 (by decide) (fun c111 => ?_) (fun c111 => ?_)
            · rw [if_pos c111] at h135
              refine lv_iconst (v := 1) hx hb dX6_readSundays_59 (by decide) ?_
              refine lv_goto (tgt := 64) hx hb dX6_readSundays_60 (by decide) ?_
              obtain rfl := inj1 h135
              exact kont109 _ _ _ hw (lv_sub hl [1, 2, 0] rfl)
            · rw [if_neg c111] at h135
              refine lv_iload_n hx hb dX6_readSundays_47 rfl (lv_at hl 0 rfl) ?_
              refine lv_bipush (v := 104) hx hb dX6_readSundays_48 (by decide) ?_
              refine lv_icmp_eq (tgt := 59) hx hb dX6_readSundays_50 (by decide) (fun c112 => ?_) (fun c112 => ?_)
              · rw [if_pos c112] at h135
                refine lv_iconst (v := 1) hx hb dX6_readSundays_59 (by decide) ?_
                refine lv_goto (tgt := 64) hx hb dX6_readSundays_60 (by decide) ?_
                obtain rfl := inj1 h135
                exact kont109 _ _ _ hw (lv_sub hl [1, 2, 0] rfl)
              · rw [if_neg c112] at h135
                refine lv_iload_n hx hb dX6_readSundays_53 rfl (lv_at hl 0 rfl) ?_
                refine lv_bipush (v := 98) hx hb dX6_readSundays_54 (by decide) ?_
                refine lv_icmp_ne (tgt := 63) hx hb dX6_readSundays_56 (by decide) (fun c113 => ?_) (fun c113 => ?_)
                · rw [if_neg c113] at h135
                  refine lv_iconst (v := 0) hx hb dX6_readSundays_63 (by decide) ?_
                  obtain rfl := inj1 h135
                  exact kont109 _ _ _ hw (lv_sub hl [1, 2, 0] rfl)
                · rw [if_pos c113] at h135
                  refine lv_iconst (v := 1) hx hb dX6_readSundays_59 (by decide) ?_
                  refine lv_goto (tgt := 64) hx hb dX6_readSundays_60 (by decide) ?_
                  obtain rfl := inj1 h135
                  exact kont109 _ _ _ hw (lv_sub hl [1, 2, 0] rfl)
        clear h134
        refine lv_if_eq (tgt := 29) hx hb dX6_readSundays_22 (by decide) (fun c100 => ?_) (fun c100 => ?_)
        · rw [if_pos c100] at h133
          refine lv_aload_n hx hb dX6_readSundays_29 rfl (lv_at hl 0 rfl) ?_
          obtain ⟨r101, x102, k103, h142⟩ := ob2 h133
          clear h133
          refine g_vi F (cX6_here_ok l d cy m0 m1 m2 m3 m4 m5 m6 m7 m8 m9 m10 m_now m_tape m_typed v82 v81 v84 v83 m_read m_undone m_undos m_bestGain m_aside m_kept m_keptUndos m_isKept m_lanes m_sizes m_items m_moved r101 x102 k103) cal_X6_here t_888 rfl ⟨by decide, by decide⟩ hw (w' := wM cy m0 m1 m2 m3 m4 m5 m6 m7 m8 m9 m10 m_now m_tape m_typed x102 v81 v84 v83 m_read m_undone m_undos m_bestGain m_aside m_kept m_keptUndos m_isKept m_lanes m_sizes m_items m_moved) Cut.all 0 6 rfl rfl hl.1 (Nat.le_of_ble_eq_true rfl) rfl dX6_readSundays_30 (fun H locs hw => ?_)
          obtain ⟨rfl, rfl⟩ := inj2 h142
          exact kont99 _ _ _ hw (lv_sub hl [0, 1] rfl)
        · rw [if_neg c100] at h133
          refine lv_iconst (v := 0) hx hb dX6_readSundays_25 (by decide) ?_
          refine lv_goto (tgt := 33) hx hb dX6_readSundays_26 (by decide) ?_
          obtain ⟨rfl, rfl⟩ := inj2 h133
          exact kont99 _ _ _ hw (lv_sub hl [0, 1] rfl)
  exact loop87 fl 0 m_isFault m_place 0 0 _ _ _ hw (lv_sub hl [1, 0] rfl) h129
theorem cal_X6_readPeople : CalV yX6_readPeople cX6_readPeople 8 (some .int) RX6 0 := ⟨t_899, t_898, t_18, t_43, by decide +kernel⟩
set_option maxHeartbeats 4000000 in
set_option maxRecDepth 100000 in
theorem cX6_readPeople_ok (l : Launch) (d : va_G) (cy : Nat → ClassId) (m0 m1 m2 m3 m4 m5 m6 m7 m8 m9 m10 : Nat) (m_now : Nat → Int32) (m_tape : Nat → Int32) (m_typed : Int32) (m_place : Int32) (m_isFault : Int32) (m_readWet : Int32) (m_readHarvest : Int32) (m_read : Nat → Int32) (m_undone : Nat → Int32) (m_undos : Int32) (m_bestGain : Int32) (m_aside : Nat → Int32) (m_kept : Nat → Int32) (m_keptUndos : Int32) (m_isKept : Int32) (m_lanes : Nat → Int32) (m_sizes : Nat → Int32) (m_items : Nat → Int64) (m_moved : Nat → Int64) (r : Int32) (m_place_r : Int32) (m_isFault_r : Int32) (m_read_r : Nat → Int32) (h0 : fX6_readPeople m_tape m_typed m_place m_isFault m_read = some (r, m_place_r, m_isFault_r, m_read_r)) : CI l yX6_readPeople cX6_readPeople 8 (some .int) 3 68 d cy [.ref m0] (wM cy m0 m1 m2 m3 m4 m5 m6 m7 m8 m9 m10 m_now m_tape m_typed m_place m_isFault m_readWet m_readHarvest m_read m_undone m_undos m_bestGain m_aside m_kept m_keptUndos m_isKept m_lanes m_sizes m_items m_moved) (wM cy m0 m1 m2 m3 m4 m5 m6 m7 m8 m9 m10 m_now m_tape m_typed m_place_r m_isFault_r m_readWet m_readHarvest m_read_r m_undone m_undos m_bestGain m_aside m_kept m_keptUndos m_isKept m_lanes m_sizes m_items m_moved) r := by
  refine CI.of (by decide) (Nat.le_of_ble_eq_true rfl) ?_
  intro p e s m args below meth c A ls Q F hret hw hl
  have hx := F.1
  have hb := F.2.1
  have hl : lv_has ls 8 [(0, .ref m0)] := hl
  rw [fX6_readPeople] at h0
  refine lv_iconst (v := 0) hx hb dX6_readPeople_0 (by decide) ?_
  refine lv_istore_n (lv' := [(1, .int 0), (0, .ref m0)]) hx hb dX6_readPeople_1 rfl hl (by decide) rfl (fun ls hl => ?_)
  obtain ⟨o484, o485, q486, o487, h724, h725⟩ := ob4 h0
  clear h0
  have kont481 : ∀ (H : Heap) (locs : List Loc) (ls : Array Slot), Wd d A s.heap (wM cy m0 m1 m2 m3 m4 m5 m6 m7 m8 m9 m10 m_now m_tape m_typed o484 o485 m_readWet m_readHarvest q486 m_undone m_undos m_bestGain m_aside m_kept m_keptUndos m_isKept m_lanes m_sizes m_items m_moved) H locs → lv_has ls 8 [(1, .int o487)] → W p l e (rmo 3 68) s m args below meth c H locs 0 0 Q (F0 m 266 ls []) := by
    intro H locs ls hw hl
    clear h724
    refine lv_iload_n hx hb dX6_readPeople_266 rfl (lv_at hl 0 rfl) ?_
    obtain ⟨rfl, rfl, rfl, rfl⟩ := inj4 h725
    exact hret _ _ _ _ hw dX6_readPeople_267
  clear h725
  have loop483 : ∀ (n : Nat) (v477 : Int32) (v478 : Int32) (v479 : Int32) (g480 : Nat → Int32) (H : Heap) (locs : List Loc) (ls : Array Slot), Wd d A s.heap (wM cy m0 m1 m2 m3 m4 m5 m6 m7 m8 m9 m10 m_now m_tape m_typed v479 v478 m_readWet m_readHarvest g480 m_undone m_undos m_bestGain m_aside m_kept m_keptUndos m_isKept m_lanes m_sizes m_items m_moved) H locs → lv_has ls 8 [(0, .ref m0), (1, .int v477)] → fX6_readPeople_L2 m_tape m_typed n v477 v478 v479 g480 = some (o484, o485, q486, o487) → W p l e (rmo 3 68) s m args below meth c H locs 0 0 Q (F0 m 2 ls []) := by
    intro n
    induction n with
    | zero =>
      intro v477 v478 v479 g480 H locs ls hw hl h726
      rw [fX6_readPeople_L2] at h726
      cases h726
    | succ n ih482 =>
      intro v477 v478 v479 g480 H locs ls hw hl h727
      rw [fX6_readPeople_L2] at h727
      refine lv_aload_n hx hb dX6_readPeople_2 rfl (lv_at hl 0 rfl) ?_
      refine g_get F inG6 hw 0 rfl rfl 4 (by decide) t_734 (fun _ h9 => h9) rfl dX6_readPeople_3 ?_
      refine lv_if_ne (tgt := 266) hx hb dX6_readPeople_6 (by decide) (fun c488 => ?_) (fun c488 => ?_)
      · rw [if_neg c488] at h727
        obtain ⟨rfl, rfl, rfl, rfl⟩ := inj4 h727
        exact kont481 _ _ _ hw (lv_sub hl [1] rfl)
      · rw [if_pos c488] at h727
        refine lv_iload_n hx hb dX6_readPeople_9 rfl (lv_at hl 1 rfl) ?_
        refine lv_if_eq (tgt := 22) hx hb dX6_readPeople_10 (by decide) (fun c489 => ?_) (fun c489 => ?_)
        · rw [if_pos c489] at h727
          refine lv_iload_n hx hb dX6_readPeople_22 rfl (lv_at hl 1 rfl) ?_
          obtain ⟨x498, x499, h728, h729⟩ := ob2 h727
          clear h727
          have kont500 : ∀ (H : Heap) (locs : List Loc) (ls : Array Slot), Wd d A s.heap (wM cy m0 m1 m2 m3 m4 m5 m6 m7 m8 m9 m10 m_now m_tape m_typed x498 x499 m_readWet m_readHarvest g480 m_undone m_undos m_bestGain m_aside m_kept m_keptUndos m_isKept m_lanes m_sizes m_items m_moved) H locs → lv_has ls 8 [(0, .ref m0), (1, .int v477)] → W p l e (rmo 3 68) s m args below meth c H locs 0 0 Q (F0 m 41 ls []) := by
            intro H locs ls hw hl
            clear h728
            refine lv_aload_n hx hb dX6_readPeople_41 rfl (lv_at hl 0 rfl) ?_
            refine g_get F inG6 hw 0 rfl rfl 4 (by decide) t_734 (fun _ h9 => h9) rfl dX6_readPeople_42 ?_
            obtain ⟨x513, x514, h730, h731⟩ := ob2 h729
            clear h729
            have kont515 : ∀ (H : Heap) (locs : List Loc) (ls : Array Slot), Wd d A s.heap (wM cy m0 m1 m2 m3 m4 m5 m6 m7 m8 m9 m10 m_now m_tape m_typed x513 x499 m_readWet m_readHarvest g480 m_undone m_undos m_bestGain m_aside m_kept m_keptUndos m_isKept m_lanes m_sizes m_items m_moved) H locs → lv_has ls 8 [(0, .ref m0), (1, .int v477)] → W p l e (rmo 3 68) s m args below meth c H locs 0 0 Q (F0 m 56 ls [.int x514]) := by
              intro H locs ls hw hl
              clear h730
              refine lv_istore_n (lv' := [(2, .int x514), (0, .ref m0), (1, .int v477)]) hx hb dX6_readPeople_56 rfl hl (by decide) rfl (fun ls hl => ?_)
              refine lv_iload_n hx hb dX6_readPeople_57 rfl (lv_at hl 0 rfl) ?_
              refine lv_bipush (v := 112) hx hb dX6_readPeople_58 (by decide) ?_
              obtain ⟨x525, h732, h733⟩ := ob1 h731
              clear h731
              have kont526 : ∀ (H : Heap) (locs : List Loc) (ls : Array Slot), Wd d A s.heap (wM cy m0 m1 m2 m3 m4 m5 m6 m7 m8 m9 m10 m_now m_tape m_typed x513 x499 m_readWet m_readHarvest g480 m_undone m_undos m_bestGain m_aside m_kept m_keptUndos m_isKept m_lanes m_sizes m_items m_moved) H locs → lv_has ls 8 [(0, .ref m0), (1, .int v477)] → W p l e (rmo 3 68) s m args below meth c H locs 0 0 Q (F0 m 108 ls [.int x525]) := by
                intro H locs ls hw hl
                clear h732
                refine lv_istore_n (lv' := [(3, .int x525), (0, .ref m0), (1, .int v477)]) hx hb dX6_readPeople_108 rfl hl (by decide) rfl (fun ls hl => ?_)
                refine lv_aload_n hx hb dX6_readPeople_109 rfl (lv_at hl 1 rfl) ?_
                refine lv_iload_n hx hb dX6_readPeople_110 rfl (lv_at hl 0 rfl) ?_
                obtain ⟨x533, h734, h735⟩ := ob1 h733
                clear h733
                have kont534 : ∀ (H : Heap) (locs : List Loc) (ls : Array Slot), Wd d A s.heap (wM cy m0 m1 m2 m3 m4 m5 m6 m7 m8 m9 m10 m_now m_tape m_typed x513 x499 m_readWet m_readHarvest g480 m_undone m_undos m_bestGain m_aside m_kept m_keptUndos m_isKept m_lanes m_sizes m_items m_moved) H locs → lv_has ls 8 [(0, .ref m0), (1, .int v477), (3, .int x525)] → W p l e (rmo 3 68) s m args below meth c H locs 0 0 Q (F0 m 119 ls [.int x533, .ref m0]) := by
                  intro H locs ls hw hl
                  clear h734
                  obtain ⟨x536, x537, k538, h736⟩ := ob2 h735
                  clear h735
                  refine g_vv F (cX6_must_ok l d cy m0 m1 m2 m3 m4 m5 m6 m7 m8 m9 m10 m_now m_tape m_typed x513 x499 m_readWet m_readHarvest g480 m_undone m_undos m_bestGain m_aside m_kept m_keptUndos m_isKept m_lanes m_sizes m_items m_moved x533 x536 x537 k538) cal_X6_must t_892 rfl ⟨by decide, by decide⟩ hw (w' := wM cy m0 m1 m2 m3 m4 m5 m6 m7 m8 m9 m10 m_now m_tape m_typed x536 x537 m_readWet m_readHarvest g480 m_undone m_undos m_bestGain m_aside m_kept m_keptUndos m_isKept m_lanes m_sizes m_items m_moved) Cut.all 0 6 rfl rfl hl.1 (Nat.le_of_ble_eq_true rfl) rfl dX6_readPeople_119 (fun H locs hw => ?_)
                  refine lv_aload_n hx hb dX6_readPeople_122 rfl (lv_at hl 0 rfl) ?_
                  obtain ⟨r539, x540, x541, k542, h737⟩ := ob3 h736
                  clear h736
                  refine g_vi F (cX6_number_ok l d cy m0 m1 m2 m3 m4 m5 m6 m7 m8 m9 m10 m_now m_tape m_typed x536 x537 m_readWet m_readHarvest g480 m_undone m_undos m_bestGain m_aside m_kept m_keptUndos m_isKept m_lanes m_sizes m_items m_moved r539 x540 x541 k542) cal_X6_number t_900 rfl ⟨by decide, by decide⟩ hw (w' := wM cy m0 m1 m2 m3 m4 m5 m6 m7 m8 m9 m10 m_now m_tape m_typed x540 x541 m_readWet m_readHarvest g480 m_undone m_undos m_bestGain m_aside m_kept m_keptUndos m_isKept m_lanes m_sizes m_items m_moved) Cut.all 0 6 rfl rfl hl.1 (Nat.le_of_ble_eq_true rfl) rfl dX6_readPeople_123 (fun H locs hw => ?_)
                  refine lv_istore (lv' := [(4, .int r539), (0, .ref m0), (1, .int v477), (3, .int x525)]) hx hb dX6_readPeople_126 hl (by decide) rfl (fun ls hl => ?_)
                  refine lv_iload_n hx hb dX6_readPeople_128 rfl (lv_at hl 2 rfl) ?_
                  refine lv_istore (lv' := [(5, .int v477), (4, .int r539), (0, .ref m0), (1, .int v477), (3, .int x525)]) hx hb dX6_readPeople_129 hl (by decide) rfl (fun ls hl => ?_)
                  refine lv_aload_n hx hb dX6_readPeople_131 rfl (lv_at hl 2 rfl) ?_
                  refine g_get F inG6 hw 0 rfl rfl 4 (by decide) t_734 (fun _ h9 => h9) rfl dX6_readPeople_132 ?_
                  obtain ⟨x556, x557, x558, h738, h739⟩ := ob3 h737
                  clear h737
                  have kont559 : ∀ (H : Heap) (locs : List Loc) (ls : Array Slot), Wd d A s.heap (wM cy m0 m1 m2 m3 m4 m5 m6 m7 m8 m9 m10 m_now m_tape m_typed x556 x557 m_readWet m_readHarvest g480 m_undone m_undos m_bestGain m_aside m_kept m_keptUndos m_isKept m_lanes m_sizes m_items m_moved) H locs → lv_has ls 8 [(0, .ref m0), (1, .int v477), (3, .int x525), (4, .int r539), (5, .int x558)] → W p l e (rmo 3 68) s m args below meth c H locs 0 0 Q (F0 m 180 ls []) := by
                    intro H locs ls hw hl
                    clear h738
                    refine lv_aload_n hx hb dX6_readPeople_180 rfl (lv_at hl 0 rfl) ?_
                    refine lv_bipush (v := 45) hx hb dX6_readPeople_181 (by decide) ?_
                    obtain ⟨r573, x574, x575, k576, h740⟩ := ob3 h739
                    clear h739
                    refine g_vi F (cX6_letters_ok l d cy m0 m1 m2 m3 m4 m5 m6 m7 m8 m9 m10 m_now m_tape m_typed x556 x557 m_readWet m_readHarvest g480 m_undone m_undos m_bestGain m_aside m_kept m_keptUndos m_isKept m_lanes m_sizes m_items m_moved 45 r573 x574 x575 k576) cal_X6_letters t_906 rfl ⟨by decide, by decide⟩ hw (w' := wM cy m0 m1 m2 m3 m4 m5 m6 m7 m8 m9 m10 m_now m_tape m_typed x574 x575 m_readWet m_readHarvest g480 m_undone m_undos m_bestGain m_aside m_kept m_keptUndos m_isKept m_lanes m_sizes m_items m_moved) Cut.all 0 6 rfl rfl hl.1 (Nat.le_of_ble_eq_true rfl) rfl dX6_readPeople_183 (fun H locs hw => ?_)
                    refine lv_istore (lv' := [(6, .int r573), (0, .ref m0), (1, .int v477), (3, .int x525), (4, .int r539), (5, .int x558)]) hx hb dX6_readPeople_186 hl (by decide) rfl (fun ls hl => ?_)
                    refine lv_aload_n hx hb dX6_readPeople_188 rfl (lv_at hl 1 rfl) ?_
                    refine lv_bipush (v := 43) hx hb dX6_readPeople_189 (by decide) ?_
                    obtain ⟨r577, x578, x579, k580, h741⟩ := ob3 h740
                    clear h740
                    refine g_vi F (cX6_letters_ok l d cy m0 m1 m2 m3 m4 m5 m6 m7 m8 m9 m10 m_now m_tape m_typed x574 x575 m_readWet m_readHarvest g480 m_undone m_undos m_bestGain m_aside m_kept m_keptUndos m_isKept m_lanes m_sizes m_items m_moved 43 r577 x578 x579 k580) cal_X6_letters t_906 rfl ⟨by decide, by decide⟩ hw (w' := wM cy m0 m1 m2 m3 m4 m5 m6 m7 m8 m9 m10 m_now m_tape m_typed x578 x579 m_readWet m_readHarvest g480 m_undone m_undos m_bestGain m_aside m_kept m_keptUndos m_isKept m_lanes m_sizes m_items m_moved) Cut.all 0 6 rfl rfl hl.1 (Nat.le_of_ble_eq_true rfl) rfl dX6_readPeople_191 (fun H locs hw => ?_)
                    refine lv_istore (lv' := [(7, .int r577), (6, .int r573), (0, .ref m0), (1, .int v477), (3, .int x525), (4, .int r539), (5, .int x558)]) hx hb dX6_readPeople_194 hl (by decide) rfl (fun ls hl => ?_)
                    refine lv_aload_n hx hb dX6_readPeople_196 rfl (lv_at hl 2 rfl) ?_
                    refine g_get F inG6 hw 0 rfl rfl 4 (by decide) t_734 (fun _ h9 => h9) rfl dX6_readPeople_197 ?_
                    obtain ⟨f592, h742, h743⟩ := ob1 h741
                    clear h741
                    have kont593 : ∀ (H : Heap) (locs : List Loc) (ls : Array Slot), Wd d A s.heap (wM cy m0 m1 m2 m3 m4 m5 m6 m7 m8 m9 m10 m_now m_tape m_typed x578 x579 m_readWet m_readHarvest f592 m_undone m_undos m_bestGain m_aside m_kept m_keptUndos m_isKept m_lanes m_sizes m_items m_moved) H locs → lv_has ls 8 [(0, .ref m0), (1, .int v477)] → W p l e (rmo 3 68) s m args below meth c H locs 0 0 Q (F0 m 260 ls []) := by
                      intro H locs ls hw hl
                      clear h742
                      refine lv_iinc (v := (v477 + 1)) (lv' := [(1, .int (v477 + 1)), (0, .ref m0)]) hx hb dX6_readPeople_260 hl (k := 1) rfl rfl (by decide) rfl (fun ls hl => ?_)
                      refine lv_goto (tgt := 2) hx hb dX6_readPeople_263 (by decide) ?_
                      exact ih482 (v477 + 1) x579 x578 f592 _ _ _ hw (lv_sub hl [1, 0] rfl) h743
                    clear h743
                    refine lv_if_ne (tgt := 260) hx hb dX6_readPeople_200 (by decide) (fun c594 => ?_) (fun c594 => ?_)
                    · rw [if_neg c594] at h742
                      obtain rfl := inj1 h742
                      exact kont593 _ _ _ hw (lv_sub hl [2, 3] rfl)
                    · rw [if_pos c594] at h742
                      refine lv_aload_n hx hb dX6_readPeople_203 rfl (lv_at hl 2 rfl) ?_
                      refine g_get F inG6 hw 0 rfl rfl 7 (by decide) t_737 (fun _ h9 => h9) rfl dX6_readPeople_204 ?_
                      refine lv_iconst (v := 5) hx hb dX6_readPeople_207 (by decide) ?_
                      refine lv_iload_n hx hb dX6_readPeople_208 rfl (lv_at hl 3 rfl) ?_
                      refine lv_imul hx hb dX6_readPeople_209 ?_
                      refine lv_iload_n hx hb dX6_readPeople_210 rfl (lv_at hl 4 rfl) ?_
                      obtain ⟨j595, k596, h744⟩ := ob1 h742
                      clear h742
                      refine g_iast F hw 3 rfl k596 dX6_readPeople_211 (w' := wM cy m0 m1 m2 m3 m4 m5 m6 m7 m8 m9 m10 m_now m_tape m_typed x578 x579 m_readWet m_readHarvest (upd g480 j595 x525) m_undone m_undos m_bestGain m_aside m_kept m_keptUndos m_isKept m_lanes m_sizes m_items m_moved) rfl (fun H locs hw => ?_)
                      refine lv_aload_n hx hb dX6_readPeople_212 rfl (lv_at hl 2 rfl) ?_
                      refine g_get F inG6 hw 0 rfl rfl 7 (by decide) t_737 (fun _ h9 => h9) rfl dX6_readPeople_213 ?_
                      refine lv_iconst (v := 5) hx hb dX6_readPeople_216 (by decide) ?_
                      refine lv_iload_n hx hb dX6_readPeople_217 rfl (lv_at hl 3 rfl) ?_
                      refine lv_imul hx hb dX6_readPeople_218 ?_
                      refine lv_iconst (v := 1) hx hb dX6_readPeople_219 (by decide) ?_
                      refine lv_iadd hx hb dX6_readPeople_220 ?_
                      refine lv_iload hx hb dX6_readPeople_221 (lv_at hl 6 rfl) ?_
                      obtain ⟨j597, k598, h745⟩ := ob1 h744
                      clear h744
                      refine g_iast F hw 3 rfl k598 dX6_readPeople_223 (w' := wM cy m0 m1 m2 m3 m4 m5 m6 m7 m8 m9 m10 m_now m_tape m_typed x578 x579 m_readWet m_readHarvest (upd (upd g480 j595 x525) j597 x558) m_undone m_undos m_bestGain m_aside m_kept m_keptUndos m_isKept m_lanes m_sizes m_items m_moved) rfl (fun H locs hw => ?_)
                      refine lv_aload_n hx hb dX6_readPeople_224 rfl (lv_at hl 2 rfl) ?_
                      refine g_get F inG6 hw 0 rfl rfl 7 (by decide) t_737 (fun _ h9 => h9) rfl dX6_readPeople_225 ?_
                      refine lv_iconst (v := 5) hx hb dX6_readPeople_228 (by decide) ?_
                      refine lv_iload_n hx hb dX6_readPeople_229 rfl (lv_at hl 3 rfl) ?_
                      refine lv_imul hx hb dX6_readPeople_230 ?_
                      refine lv_iconst (v := 2) hx hb dX6_readPeople_231 (by decide) ?_
                      refine lv_iadd hx hb dX6_readPeople_232 ?_
                      refine lv_iload hx hb dX6_readPeople_233 (lv_at hl 5 rfl) ?_
                      obtain ⟨j599, k600, h746⟩ := ob1 h745
                      clear h745
                      refine g_iast F hw 3 rfl k600 dX6_readPeople_235 (w' := wM cy m0 m1 m2 m3 m4 m5 m6 m7 m8 m9 m10 m_now m_tape m_typed x578 x579 m_readWet m_readHarvest (upd (upd (upd g480 j595 x525) j597 x558) j599 r539) m_undone m_undos m_bestGain m_aside m_kept m_keptUndos m_isKept m_lanes m_sizes m_items m_moved) rfl (fun H locs hw => ?_)
                      refine lv_aload_n hx hb dX6_readPeople_236 rfl (lv_at hl 2 rfl) ?_
                      refine g_get F inG6 hw 0 rfl rfl 7 (by decide) t_737 (fun _ h9 => h9) rfl dX6_readPeople_237 ?_
                      refine lv_iconst (v := 5) hx hb dX6_readPeople_240 (by decide) ?_
                      refine lv_iload_n hx hb dX6_readPeople_241 rfl (lv_at hl 3 rfl) ?_
                      refine lv_imul hx hb dX6_readPeople_242 ?_
                      refine lv_iconst (v := 3) hx hb dX6_readPeople_243 (by decide) ?_
                      refine lv_iadd hx hb dX6_readPeople_244 ?_
                      refine lv_iload hx hb dX6_readPeople_245 (lv_at hl 1 rfl) ?_
                      obtain ⟨j601, k602, h747⟩ := ob1 h746
                      clear h746
                      refine g_iast F hw 3 rfl k602 dX6_readPeople_247 (w' := wM cy m0 m1 m2 m3 m4 m5 m6 m7 m8 m9 m10 m_now m_tape m_typed x578 x579 m_readWet m_readHarvest (upd (upd (upd (upd g480 j595 x525) j597 x558) j599 r539) j601 r573) m_undone m_undos m_bestGain m_aside m_kept m_keptUndos m_isKept m_lanes m_sizes m_items m_moved) rfl (fun H locs hw => ?_)
                      refine lv_aload_n hx hb dX6_readPeople_248 rfl (lv_at hl 2 rfl) ?_
                      refine g_get F inG6 hw 0 rfl rfl 7 (by decide) t_737 (fun _ h9 => h9) rfl dX6_readPeople_249 ?_
                      refine lv_iconst (v := 5) hx hb dX6_readPeople_252 (by decide) ?_
                      refine lv_iload_n hx hb dX6_readPeople_253 rfl (lv_at hl 3 rfl) ?_
                      refine lv_imul hx hb dX6_readPeople_254 ?_
                      refine lv_iconst (v := 4) hx hb dX6_readPeople_255 (by decide) ?_
                      refine lv_iadd hx hb dX6_readPeople_256 ?_
                      refine lv_iload hx hb dX6_readPeople_257 (lv_at hl 0 rfl) ?_
                      obtain ⟨j603, k604, h748⟩ := ob1 h747
                      clear h747
                      refine g_iast F hw 3 rfl k604 dX6_readPeople_259 (w' := wM cy m0 m1 m2 m3 m4 m5 m6 m7 m8 m9 m10 m_now m_tape m_typed x578 x579 m_readWet m_readHarvest (upd (upd (upd (upd (upd g480 j595 x525) j597 x558) j599 r539) j601 r573) j603 r577) m_undone m_undos m_bestGain m_aside m_kept m_keptUndos m_isKept m_lanes m_sizes m_items m_moved) rfl (fun H locs hw => ?_)
                      obtain rfl := inj1 h748
                      exact kont593 _ _ _ hw (lv_sub hl [2, 3] rfl)
                  clear h739
                  refine lv_if_ne (tgt := 180) hx hb dX6_readPeople_135 (by decide) (fun c560 => ?_) (fun c560 => ?_)
                  · rw [if_neg c560] at h738
                    obtain ⟨rfl, rfl, rfl⟩ := inj3 h738
                    exact kont559 _ _ _ hw (lv_sub hl [2, 3, 4, 1, 0] rfl)
                  · rw [if_pos c560] at h738
                    refine lv_aload_n hx hb dX6_readPeople_138 rfl (lv_at hl 2 rfl) ?_
                    obtain ⟨r561, x562, k563, h749⟩ := ob2 h738
                    clear h738
                    refine g_vi F (cX6_here_ok l d cy m0 m1 m2 m3 m4 m5 m6 m7 m8 m9 m10 m_now m_tape m_typed x540 x541 m_readWet m_readHarvest g480 m_undone m_undos m_bestGain m_aside m_kept m_keptUndos m_isKept m_lanes m_sizes m_items m_moved r561 x562 k563) cal_X6_here t_888 rfl ⟨by decide, by decide⟩ hw (w' := wM cy m0 m1 m2 m3 m4 m5 m6 m7 m8 m9 m10 m_now m_tape m_typed x562 x541 m_readWet m_readHarvest g480 m_undone m_undos m_bestGain m_aside m_kept m_keptUndos m_isKept m_lanes m_sizes m_items m_moved) Cut.all 0 6 rfl rfl hl.1 (Nat.le_of_ble_eq_true rfl) rfl dX6_readPeople_139 (fun H locs hw => ?_)
                    refine lv_bipush (v := 62) hx hb dX6_readPeople_142 (by decide) ?_
                    refine lv_icmp_ne (tgt := 180) hx hb dX6_readPeople_144 (by decide) (fun c564 => ?_) (fun c564 => ?_)
                    · rw [if_neg c564] at h749
                      obtain ⟨rfl, rfl, rfl⟩ := inj3 h749
                      exact kont559 _ _ _ hw (lv_sub hl [2, 3, 4, 1, 0] rfl)
                    · rw [if_pos c564] at h749
                      refine lv_aload_n hx hb dX6_readPeople_147 rfl (lv_at hl 2 rfl) ?_
                      refine lv_dup hx hb dX6_readPeople_148 rfl ?_
                      refine g_get F inG6 hw 0 rfl rfl 3 (by decide) t_733 (fun _ h9 => h9) rfl dX6_readPeople_149 ?_
                      refine lv_iconst (v := 1) hx hb dX6_readPeople_152 (by decide) ?_
                      refine lv_iadd hx hb dX6_readPeople_153 ?_
                      refine g_put F inG6 tyX6 tyX6_ok nmX6 hw 0 rfl rfl 3 (by decide) t_733 (fun _ h9 => h9) rfl (ty := .int) (by decide +kernel) rfl rfl (Nat.le_of_ble_eq_true rfl) dX6_readPeople_154 (w' := wM cy m0 m1 m2 m3 m4 m5 m6 m7 m8 m9 m10 m_now m_tape m_typed (x562 + 1) x541 m_readWet m_readHarvest g480 m_undone m_undos m_bestGain m_aside m_kept m_keptUndos m_isKept m_lanes m_sizes m_items m_moved) rfl (fun H locs hw => ?_)
                      refine lv_aload_n hx hb dX6_readPeople_157 rfl (lv_at hl 2 rfl) ?_
                      obtain ⟨r565, x566, k567, h750⟩ := ob2 h749
                      clear h749
                      refine g_vi F (cX6_here_ok l d cy m0 m1 m2 m3 m4 m5 m6 m7 m8 m9 m10 m_now m_tape m_typed (x562 + 1) x541 m_readWet m_readHarvest g480 m_undone m_undos m_bestGain m_aside m_kept m_keptUndos m_isKept m_lanes m_sizes m_items m_moved r565 x566 k567) cal_X6_here t_888 rfl ⟨by decide, by decide⟩ hw (w' := wM cy m0 m1 m2 m3 m4 m5 m6 m7 m8 m9 m10 m_now m_tape m_typed x566 x541 m_readWet m_readHarvest g480 m_undone m_undos m_bestGain m_aside m_kept m_keptUndos m_isKept m_lanes m_sizes m_items m_moved) Cut.all 0 6 rfl rfl hl.1 (Nat.le_of_ble_eq_true rfl) rfl dX6_readPeople_158 (fun H locs hw => ?_)
                      refine lv_bipush (v := 48) hx hb dX6_readPeople_161 (by decide) ?_
                      refine lv_isub hx hb dX6_readPeople_163 ?_
                      refine lv_istore (lv' := [(5, .int (r565 - 48)), (4, .int r539), (0, .ref m0), (1, .int v477), (3, .int x525)]) hx hb dX6_readPeople_164 hl (by decide) rfl (fun ls hl => ?_)
                      refine lv_aload_n hx hb dX6_readPeople_166 rfl (lv_at hl 2 rfl) ?_
                      refine lv_iload hx hb dX6_readPeople_167 (lv_at hl 0 rfl) ?_
                      refine lv_i2l hx hb dX6_readPeople_169 rfl ?_
                      refine lv_lconst (v := 0) hx hb dX6_readPeople_170 (by decide) ?_
                      refine lv_ldc2 (v := 5) hx hb F.2.2.2.2.2.1 (F.2.2.2.2.2.2.1 _ t_821) dX6_readPeople_171 ?_
                      obtain ⟨r568, k569, h751⟩ := ob1 h750
                      clear h750
                      refine g_si F (cX6_in_ok l d cy (Int32.toInt64 (r565 - 48)) 0 5 r568 k569) cal_X6_in t_793 rfl ⟨by decide, by decide⟩ hw (w' := wM cy m0 m1 m2 m3 m4 m5 m6 m7 m8 m9 m10 m_now m_tape m_typed x566 x541 m_readWet m_readHarvest g480 m_undone m_undos m_bestGain m_aside m_kept m_keptUndos m_isKept m_lanes m_sizes m_items m_moved) Cut.nil hl.1 (Nat.le_of_ble_eq_true rfl) rfl dX6_readPeople_174 (fun H locs hw => ?_)
                      obtain ⟨x570, x571, k572, h752⟩ := ob2 h751
                      clear h751
                      refine g_vv F (cX6_must_ok l d cy m0 m1 m2 m3 m4 m5 m6 m7 m8 m9 m10 m_now m_tape m_typed x566 x541 m_readWet m_readHarvest g480 m_undone m_undos m_bestGain m_aside m_kept m_keptUndos m_isKept m_lanes m_sizes m_items m_moved r568 x570 x571 k572) cal_X6_must t_892 rfl ⟨by decide, by decide⟩ hw (w' := wM cy m0 m1 m2 m3 m4 m5 m6 m7 m8 m9 m10 m_now m_tape m_typed x570 x571 m_readWet m_readHarvest g480 m_undone m_undos m_bestGain m_aside m_kept m_keptUndos m_isKept m_lanes m_sizes m_items m_moved) Cut.all 0 6 rfl rfl hl.1 (Nat.le_of_ble_eq_true rfl) rfl dX6_readPeople_177 (fun H locs hw => ?_)
                      obtain ⟨rfl, rfl, rfl⟩ := inj3 h752
                      exact kont559 _ _ _ hw (lv_sub hl [2, 3, 4, 1, 0] rfl)
                clear h735
                refine lv_if_lt (tgt := 118) hx hb dX6_readPeople_111 (by decide) (fun c535 => ?_) (fun c535 => ?_)
                · rw [if_pos c535] at h734
                  refine lv_iconst (v := 0) hx hb dX6_readPeople_118 (by decide) ?_
                  obtain rfl := inj1 h734
                  exact kont534 _ _ _ hw (lv_sub hl [1, 2, 0] rfl)
                · rw [if_neg c535] at h734
                  refine lv_iconst (v := 1) hx hb dX6_readPeople_114 (by decide) ?_
                  refine lv_goto (tgt := 119) hx hb dX6_readPeople_115 (by decide) ?_
                  obtain rfl := inj1 h734
                  exact kont534 _ _ _ hw (lv_sub hl [1, 2, 0] rfl)
              clear h733
              refine lv_icmp_ne (tgt := 67) hx hb dX6_readPeople_60 (by decide) (fun c527 => ?_) (fun c527 => ?_)
              · rw [if_neg c527] at h732
                refine lv_iload_n hx hb dX6_readPeople_67 rfl (lv_at hl 0 rfl) ?_
                refine lv_bipush (v := 102) hx hb dX6_readPeople_68 (by decide) ?_
                refine lv_icmp_ne (tgt := 77) hx hb dX6_readPeople_70 (by decide) (fun c528 => ?_) (fun c528 => ?_)
                · rw [if_neg c528] at h732
                  refine lv_iload_n hx hb dX6_readPeople_77 rfl (lv_at hl 0 rfl) ?_
                  refine lv_bipush (v := 111) hx hb dX6_readPeople_78 (by decide) ?_
                  refine lv_icmp_ne (tgt := 87) hx hb dX6_readPeople_80 (by decide) (fun c529 => ?_) (fun c529 => ?_)
                  · rw [if_neg c529] at h732
                    refine lv_iload_n hx hb dX6_readPeople_87 rfl (lv_at hl 0 rfl) ?_
                    refine lv_bipush (v := 108) hx hb dX6_readPeople_88 (by decide) ?_
                    refine lv_icmp_ne (tgt := 97) hx hb dX6_readPeople_90 (by decide) (fun c530 => ?_) (fun c530 => ?_)
                    · rw [if_neg c530] at h732
                      refine lv_iload_n hx hb dX6_readPeople_97 rfl (lv_at hl 0 rfl) ?_
                      refine lv_bipush (v := 114) hx hb dX6_readPeople_98 (by decide) ?_
                      refine lv_icmp_ne (tgt := 107) hx hb dX6_readPeople_100 (by decide) (fun c531 => ?_) (fun c531 => ?_)
                      · rw [if_neg c531] at h732
                        refine lv_iconst (v := (-1)) hx hb dX6_readPeople_107 (by decide) ?_
                        obtain rfl := inj1 h732
                        exact kont526 _ _ _ hw (lv_sub hl [1, 2] rfl)
                      · rw [if_pos c531] at h732
                        refine lv_iconst (v := 4) hx hb dX6_readPeople_103 (by decide) ?_
                        refine lv_goto (tgt := 108) hx hb dX6_readPeople_104 (by decide) ?_
                        obtain rfl := inj1 h732
                        exact kont526 _ _ _ hw (lv_sub hl [1, 2] rfl)
                    · rw [if_pos c530] at h732
                      refine lv_iconst (v := 3) hx hb dX6_readPeople_93 (by decide) ?_
                      refine lv_goto (tgt := 108) hx hb dX6_readPeople_94 (by decide) ?_
                      obtain rfl := inj1 h732
                      exact kont526 _ _ _ hw (lv_sub hl [1, 2] rfl)
                  · rw [if_pos c529] at h732
                    refine lv_iconst (v := 2) hx hb dX6_readPeople_83 (by decide) ?_
                    refine lv_goto (tgt := 108) hx hb dX6_readPeople_84 (by decide) ?_
                    obtain rfl := inj1 h732
                    exact kont526 _ _ _ hw (lv_sub hl [1, 2] rfl)
                · rw [if_pos c528] at h732
                  refine lv_iconst (v := 1) hx hb dX6_readPeople_73 (by decide) ?_
                  refine lv_goto (tgt := 108) hx hb dX6_readPeople_74 (by decide) ?_
                  obtain rfl := inj1 h732
                  exact kont526 _ _ _ hw (lv_sub hl [1, 2] rfl)
              · rw [if_pos c527] at h732
                refine lv_iconst (v := 0) hx hb dX6_readPeople_63 (by decide) ?_
                refine lv_goto (tgt := 108) hx hb dX6_readPeople_64 (by decide) ?_
                obtain rfl := inj1 h732
                exact kont526 _ _ _ hw (lv_sub hl [1, 2] rfl)
            clear h731
            refine lv_if_eq (tgt := 52) hx hb dX6_readPeople_45 (by decide) (fun c516 => ?_) (fun c516 => ?_)
            · rw [if_pos c516] at h730
              refine lv_aload_n hx hb dX6_readPeople_52 rfl (lv_at hl 0 rfl) ?_
              obtain ⟨r517, x518, k519, h753⟩ := ob2 h730
              clear h730
              refine g_vi F (cX6_here_ok l d cy m0 m1 m2 m3 m4 m5 m6 m7 m8 m9 m10 m_now m_tape m_typed x498 x499 m_readWet m_readHarvest g480 m_undone m_undos m_bestGain m_aside m_kept m_keptUndos m_isKept m_lanes m_sizes m_items m_moved r517 x518 k519) cal_X6_here t_888 rfl ⟨by decide, by decide⟩ hw (w' := wM cy m0 m1 m2 m3 m4 m5 m6 m7 m8 m9 m10 m_now m_tape m_typed x518 x499 m_readWet m_readHarvest g480 m_undone m_undos m_bestGain m_aside m_kept m_keptUndos m_isKept m_lanes m_sizes m_items m_moved) Cut.all 0 6 rfl rfl hl.1 (Nat.le_of_ble_eq_true rfl) rfl dX6_readPeople_53 (fun H locs hw => ?_)
              obtain ⟨rfl, rfl⟩ := inj2 h753
              exact kont515 _ _ _ hw (lv_sub hl [0, 1] rfl)
            · rw [if_neg c516] at h730
              refine lv_iconst (v := 0) hx hb dX6_readPeople_48 (by decide) ?_
              refine lv_goto (tgt := 56) hx hb dX6_readPeople_49 (by decide) ?_
              obtain ⟨rfl, rfl⟩ := inj2 h730
              exact kont515 _ _ _ hw (lv_sub hl [0, 1] rfl)
          clear h729
          refine lv_if_le (tgt := 41) hx hb dX6_readPeople_23 (by decide) (fun c501 => ?_) (fun c501 => ?_)
          · rw [if_pos c501] at h728
            obtain ⟨rfl, rfl⟩ := inj2 h728
            exact kont500 _ _ _ hw (lv_sub hl [0, 1] rfl)
          · rw [if_neg c501] at h728
            refine lv_aload_n hx hb dX6_readPeople_26 rfl (lv_at hl 0 rfl) ?_
            refine lv_iload_n hx hb dX6_readPeople_27 rfl (lv_at hl 1 rfl) ?_
            refine lv_bipush (v := 6) hx hb dX6_readPeople_28 (by decide) ?_
            obtain ⟨x503, h754, h755⟩ := ob1 h728
            clear h728
            have kont504 : ∀ (H : Heap) (locs : List Loc) (ls : Array Slot), Wd d A s.heap (wM cy m0 m1 m2 m3 m4 m5 m6 m7 m8 m9 m10 m_now m_tape m_typed v479 v478 m_readWet m_readHarvest g480 m_undone m_undos m_bestGain m_aside m_kept m_keptUndos m_isKept m_lanes m_sizes m_items m_moved) H locs → lv_has ls 8 [(0, .ref m0), (1, .int v477)] → W p l e (rmo 3 68) s m args below meth c H locs 0 0 Q (F0 m 38 ls [.int x503, .ref m0]) := by
              intro H locs ls hw hl
              clear h754
              obtain ⟨x506, x507, k508, h756⟩ := ob2 h755
              clear h755
              refine g_vv F (cX6_must_ok l d cy m0 m1 m2 m3 m4 m5 m6 m7 m8 m9 m10 m_now m_tape m_typed v479 v478 m_readWet m_readHarvest g480 m_undone m_undos m_bestGain m_aside m_kept m_keptUndos m_isKept m_lanes m_sizes m_items m_moved x503 x506 x507 k508) cal_X6_must t_892 rfl ⟨by decide, by decide⟩ hw (w' := wM cy m0 m1 m2 m3 m4 m5 m6 m7 m8 m9 m10 m_now m_tape m_typed x506 x507 m_readWet m_readHarvest g480 m_undone m_undos m_bestGain m_aside m_kept m_keptUndos m_isKept m_lanes m_sizes m_items m_moved) Cut.all 0 6 rfl rfl hl.1 (Nat.le_of_ble_eq_true rfl) rfl dX6_readPeople_38 (fun H locs hw => ?_)
              obtain ⟨rfl, rfl⟩ := inj2 h756
              exact kont500 _ _ _ hw (lv_sub hl [0, 1] rfl)
            clear h755
            refine lv_icmp_ge (tgt := 37) hx hb dX6_readPeople_30 (by decide) (fun c505 => ?_) (fun c505 => ?_)
            · rw [if_pos c505] at h754
              refine lv_iconst (v := 0) hx hb dX6_readPeople_37 (by decide) ?_
              obtain rfl := inj1 h754
              exact kont504 _ _ _ hw (lv_sub hl [0, 1] rfl)
            · rw [if_neg c505] at h754
              refine lv_iconst (v := 1) hx hb dX6_readPeople_33 (by decide) ?_
              refine lv_goto (tgt := 38) hx hb dX6_readPeople_34 (by decide) ?_
              obtain rfl := inj1 h754
              exact kont504 _ _ _ hw (lv_sub hl [0, 1] rfl)
        · rw [if_neg c489] at h727
          refine lv_aload_n hx hb dX6_readPeople_13 rfl (lv_at hl 0 rfl) ?_
          obtain ⟨r605, x606, k607, h757⟩ := ob2 h727
          clear h727
          refine g_vi F (cX6_here_ok l d cy m0 m1 m2 m3 m4 m5 m6 m7 m8 m9 m10 m_now m_tape m_typed v479 v478 m_readWet m_readHarvest g480 m_undone m_undos m_bestGain m_aside m_kept m_keptUndos m_isKept m_lanes m_sizes m_items m_moved r605 x606 k607) cal_X6_here t_888 rfl ⟨by decide, by decide⟩ hw (w' := wM cy m0 m1 m2 m3 m4 m5 m6 m7 m8 m9 m10 m_now m_tape m_typed x606 v478 m_readWet m_readHarvest g480 m_undone m_undos m_bestGain m_aside m_kept m_keptUndos m_isKept m_lanes m_sizes m_items m_moved) Cut.all 0 6 rfl rfl hl.1 (Nat.le_of_ble_eq_true rfl) rfl dX6_readPeople_14 (fun H locs hw => ?_)
          refine lv_bipush (v := 44) hx hb dX6_readPeople_17 (by decide) ?_
          refine lv_icmp_ne (tgt := 266) hx hb dX6_readPeople_19 (by decide) (fun c608 => ?_) (fun c608 => ?_)
          · rw [if_neg c608] at h757
            obtain ⟨rfl, rfl, rfl, rfl⟩ := inj4 h757
            exact kont481 _ _ _ hw (lv_sub hl [1] rfl)
          · rw [if_pos c608] at h757
            refine lv_iload_n hx hb dX6_readPeople_22 rfl (lv_at hl 1 rfl) ?_
            obtain ⟨x617, x618, h758, h759⟩ := ob2 h757
            clear h757
            have kont619 : ∀ (H : Heap) (locs : List Loc) (ls : Array Slot), Wd d A s.heap (wM cy m0 m1 m2 m3 m4 m5 m6 m7 m8 m9 m10 m_now m_tape m_typed x617 x618 m_readWet m_readHarvest g480 m_undone m_undos m_bestGain m_aside m_kept m_keptUndos m_isKept m_lanes m_sizes m_items m_moved) H locs → lv_has ls 8 [(0, .ref m0), (1, .int v477)] → W p l e (rmo 3 68) s m args below meth c H locs 0 0 Q (F0 m 41 ls []) := by
              intro H locs ls hw hl
              clear h758
              refine lv_aload_n hx hb dX6_readPeople_41 rfl (lv_at hl 0 rfl) ?_
              refine g_get F inG6 hw 0 rfl rfl 4 (by decide) t_734 (fun _ h9 => h9) rfl dX6_readPeople_42 ?_
              obtain ⟨x632, x633, h760, h761⟩ := ob2 h759
              clear h759
              have kont634 : ∀ (H : Heap) (locs : List Loc) (ls : Array Slot), Wd d A s.heap (wM cy m0 m1 m2 m3 m4 m5 m6 m7 m8 m9 m10 m_now m_tape m_typed x632 x618 m_readWet m_readHarvest g480 m_undone m_undos m_bestGain m_aside m_kept m_keptUndos m_isKept m_lanes m_sizes m_items m_moved) H locs → lv_has ls 8 [(0, .ref m0), (1, .int v477)] → W p l e (rmo 3 68) s m args below meth c H locs 0 0 Q (F0 m 56 ls [.int x633]) := by
                intro H locs ls hw hl
                clear h760
                refine lv_istore_n (lv' := [(2, .int x633), (0, .ref m0), (1, .int v477)]) hx hb dX6_readPeople_56 rfl hl (by decide) rfl (fun ls hl => ?_)
                refine lv_iload_n hx hb dX6_readPeople_57 rfl (lv_at hl 0 rfl) ?_
                refine lv_bipush (v := 112) hx hb dX6_readPeople_58 (by decide) ?_
                obtain ⟨x644, h762, h763⟩ := ob1 h761
                clear h761
                have kont645 : ∀ (H : Heap) (locs : List Loc) (ls : Array Slot), Wd d A s.heap (wM cy m0 m1 m2 m3 m4 m5 m6 m7 m8 m9 m10 m_now m_tape m_typed x632 x618 m_readWet m_readHarvest g480 m_undone m_undos m_bestGain m_aside m_kept m_keptUndos m_isKept m_lanes m_sizes m_items m_moved) H locs → lv_has ls 8 [(0, .ref m0), (1, .int v477)] → W p l e (rmo 3 68) s m args below meth c H locs 0 0 Q (F0 m 108 ls [.int x644]) := by
                  intro H locs ls hw hl
                  clear h762
                  refine lv_istore_n (lv' := [(3, .int x644), (0, .ref m0), (1, .int v477)]) hx hb dX6_readPeople_108 rfl hl (by decide) rfl (fun ls hl => ?_)
                  refine lv_aload_n hx hb dX6_readPeople_109 rfl (lv_at hl 1 rfl) ?_
                  refine lv_iload_n hx hb dX6_readPeople_110 rfl (lv_at hl 0 rfl) ?_
                  obtain ⟨x652, h764, h765⟩ := ob1 h763
                  clear h763
                  have kont653 : ∀ (H : Heap) (locs : List Loc) (ls : Array Slot), Wd d A s.heap (wM cy m0 m1 m2 m3 m4 m5 m6 m7 m8 m9 m10 m_now m_tape m_typed x632 x618 m_readWet m_readHarvest g480 m_undone m_undos m_bestGain m_aside m_kept m_keptUndos m_isKept m_lanes m_sizes m_items m_moved) H locs → lv_has ls 8 [(0, .ref m0), (1, .int v477), (3, .int x644)] → W p l e (rmo 3 68) s m args below meth c H locs 0 0 Q (F0 m 119 ls [.int x652, .ref m0]) := by
                    intro H locs ls hw hl
                    clear h764
                    obtain ⟨x655, x656, k657, h766⟩ := ob2 h765
                    clear h765
                    refine g_vv F (cX6_must_ok l d cy m0 m1 m2 m3 m4 m5 m6 m7 m8 m9 m10 m_now m_tape m_typed x632 x618 m_readWet m_readHarvest g480 m_undone m_undos m_bestGain m_aside m_kept m_keptUndos m_isKept m_lanes m_sizes m_items m_moved x652 x655 x656 k657) cal_X6_must t_892 rfl ⟨by decide, by decide⟩ hw (w' := wM cy m0 m1 m2 m3 m4 m5 m6 m7 m8 m9 m10 m_now m_tape m_typed x655 x656 m_readWet m_readHarvest g480 m_undone m_undos m_bestGain m_aside m_kept m_keptUndos m_isKept m_lanes m_sizes m_items m_moved) Cut.all 0 6 rfl rfl hl.1 (Nat.le_of_ble_eq_true rfl) rfl dX6_readPeople_119 (fun H locs hw => ?_)
                    refine lv_aload_n hx hb dX6_readPeople_122 rfl (lv_at hl 0 rfl) ?_
                    obtain ⟨r658, x659, x660, k661, h767⟩ := ob3 h766
                    clear h766
                    refine g_vi F (cX6_number_ok l d cy m0 m1 m2 m3 m4 m5 m6 m7 m8 m9 m10 m_now m_tape m_typed x655 x656 m_readWet m_readHarvest g480 m_undone m_undos m_bestGain m_aside m_kept m_keptUndos m_isKept m_lanes m_sizes m_items m_moved r658 x659 x660 k661) cal_X6_number t_900 rfl ⟨by decide, by decide⟩ hw (w' := wM cy m0 m1 m2 m3 m4 m5 m6 m7 m8 m9 m10 m_now m_tape m_typed x659 x660 m_readWet m_readHarvest g480 m_undone m_undos m_bestGain m_aside m_kept m_keptUndos m_isKept m_lanes m_sizes m_items m_moved) Cut.all 0 6 rfl rfl hl.1 (Nat.le_of_ble_eq_true rfl) rfl dX6_readPeople_123 (fun H locs hw => ?_)
                    refine lv_istore (lv' := [(4, .int r658), (0, .ref m0), (1, .int v477), (3, .int x644)]) hx hb dX6_readPeople_126 hl (by decide) rfl (fun ls hl => ?_)
                    refine lv_iload_n hx hb dX6_readPeople_128 rfl (lv_at hl 2 rfl) ?_
                    refine lv_istore (lv' := [(5, .int v477), (4, .int r658), (0, .ref m0), (1, .int v477), (3, .int x644)]) hx hb dX6_readPeople_129 hl (by decide) rfl (fun ls hl => ?_)
                    refine lv_aload_n hx hb dX6_readPeople_131 rfl (lv_at hl 2 rfl) ?_
                    refine g_get F inG6 hw 0 rfl rfl 4 (by decide) t_734 (fun _ h9 => h9) rfl dX6_readPeople_132 ?_
                    obtain ⟨x675, x676, x677, h768, h769⟩ := ob3 h767
                    clear h767
                    have kont678 : ∀ (H : Heap) (locs : List Loc) (ls : Array Slot), Wd d A s.heap (wM cy m0 m1 m2 m3 m4 m5 m6 m7 m8 m9 m10 m_now m_tape m_typed x675 x676 m_readWet m_readHarvest g480 m_undone m_undos m_bestGain m_aside m_kept m_keptUndos m_isKept m_lanes m_sizes m_items m_moved) H locs → lv_has ls 8 [(0, .ref m0), (1, .int v477), (3, .int x644), (4, .int r658), (5, .int x677)] → W p l e (rmo 3 68) s m args below meth c H locs 0 0 Q (F0 m 180 ls []) := by
                      intro H locs ls hw hl
                      clear h768
                      refine lv_aload_n hx hb dX6_readPeople_180 rfl (lv_at hl 0 rfl) ?_
                      refine lv_bipush (v := 45) hx hb dX6_readPeople_181 (by decide) ?_
                      obtain ⟨r692, x693, x694, k695, h770⟩ := ob3 h769
                      clear h769
                      refine g_vi F (cX6_letters_ok l d cy m0 m1 m2 m3 m4 m5 m6 m7 m8 m9 m10 m_now m_tape m_typed x675 x676 m_readWet m_readHarvest g480 m_undone m_undos m_bestGain m_aside m_kept m_keptUndos m_isKept m_lanes m_sizes m_items m_moved 45 r692 x693 x694 k695) cal_X6_letters t_906 rfl ⟨by decide, by decide⟩ hw (w' := wM cy m0 m1 m2 m3 m4 m5 m6 m7 m8 m9 m10 m_now m_tape m_typed x693 x694 m_readWet m_readHarvest g480 m_undone m_undos m_bestGain m_aside m_kept m_keptUndos m_isKept m_lanes m_sizes m_items m_moved) Cut.all 0 6 rfl rfl hl.1 (Nat.le_of_ble_eq_true rfl) rfl dX6_readPeople_183 (fun H locs hw => ?_)
                      refine lv_istore (lv' := [(6, .int r692), (0, .ref m0), (1, .int v477), (3, .int x644), (4, .int r658), (5, .int x677)]) hx hb dX6_readPeople_186 hl (by decide) rfl (fun ls hl => ?_)
                      refine lv_aload_n hx hb dX6_readPeople_188 rfl (lv_at hl 1 rfl) ?_
                      refine lv_bipush (v := 43) hx hb dX6_readPeople_189 (by decide) ?_
                      obtain ⟨r696, x697, x698, k699, h771⟩ := ob3 h770
                      clear h770
                      refine g_vi F (cX6_letters_ok l d cy m0 m1 m2 m3 m4 m5 m6 m7 m8 m9 m10 m_now m_tape m_typed x693 x694 m_readWet m_readHarvest g480 m_undone m_undos m_bestGain m_aside m_kept m_keptUndos m_isKept m_lanes m_sizes m_items m_moved 43 r696 x697 x698 k699) cal_X6_letters t_906 rfl ⟨by decide, by decide⟩ hw (w' := wM cy m0 m1 m2 m3 m4 m5 m6 m7 m8 m9 m10 m_now m_tape m_typed x697 x698 m_readWet m_readHarvest g480 m_undone m_undos m_bestGain m_aside m_kept m_keptUndos m_isKept m_lanes m_sizes m_items m_moved) Cut.all 0 6 rfl rfl hl.1 (Nat.le_of_ble_eq_true rfl) rfl dX6_readPeople_191 (fun H locs hw => ?_)
                      refine lv_istore (lv' := [(7, .int r696), (6, .int r692), (0, .ref m0), (1, .int v477), (3, .int x644), (4, .int r658), (5, .int x677)]) hx hb dX6_readPeople_194 hl (by decide) rfl (fun ls hl => ?_)
                      refine lv_aload_n hx hb dX6_readPeople_196 rfl (lv_at hl 2 rfl) ?_
                      refine g_get F inG6 hw 0 rfl rfl 4 (by decide) t_734 (fun _ h9 => h9) rfl dX6_readPeople_197 ?_
                      obtain ⟨f711, h772, h773⟩ := ob1 h771
                      clear h771
                      have kont712 : ∀ (H : Heap) (locs : List Loc) (ls : Array Slot), Wd d A s.heap (wM cy m0 m1 m2 m3 m4 m5 m6 m7 m8 m9 m10 m_now m_tape m_typed x697 x698 m_readWet m_readHarvest f711 m_undone m_undos m_bestGain m_aside m_kept m_keptUndos m_isKept m_lanes m_sizes m_items m_moved) H locs → lv_has ls 8 [(0, .ref m0), (1, .int v477)] → W p l e (rmo 3 68) s m args below meth c H locs 0 0 Q (F0 m 260 ls []) := by
                        intro H locs ls hw hl
                        clear h772
                        refine lv_iinc (v := (v477 + 1)) (lv' := [(1, .int (v477 + 1)), (0, .ref m0)]) hx hb dX6_readPeople_260 hl (k := 1) rfl rfl (by decide) rfl (fun ls hl => ?_)
                        refine lv_goto (tgt := 2) hx hb dX6_readPeople_263 (by decide) ?_
                        exact ih482 (v477 + 1) x698 x697 f711 _ _ _ hw (lv_sub hl [1, 0] rfl) h773
                      clear h773
                      refine lv_if_ne (tgt := 260) hx hb dX6_readPeople_200 (by decide) (fun c713 => ?_) (fun c713 => ?_)
                      · rw [if_neg c713] at h772
                        obtain rfl := inj1 h772
                        exact kont712 _ _ _ hw (lv_sub hl [2, 3] rfl)
                      · rw [if_pos c713] at h772
                        refine lv_aload_n hx hb dX6_readPeople_203 rfl (lv_at hl 2 rfl) ?_
                        refine g_get F inG6 hw 0 rfl rfl 7 (by decide) t_737 (fun _ h9 => h9) rfl dX6_readPeople_204 ?_
                        refine lv_iconst (v := 5) hx hb dX6_readPeople_207 (by decide) ?_
                        refine lv_iload_n hx hb dX6_readPeople_208 rfl (lv_at hl 3 rfl) ?_
                        refine lv_imul hx hb dX6_readPeople_209 ?_
                        refine lv_iload_n hx hb dX6_readPeople_210 rfl (lv_at hl 4 rfl) ?_
                        obtain ⟨j714, k715, h774⟩ := ob1 h772
                        clear h772
                        refine g_iast F hw 3 rfl k715 dX6_readPeople_211 (w' := wM cy m0 m1 m2 m3 m4 m5 m6 m7 m8 m9 m10 m_now m_tape m_typed x697 x698 m_readWet m_readHarvest (upd g480 j714 x644) m_undone m_undos m_bestGain m_aside m_kept m_keptUndos m_isKept m_lanes m_sizes m_items m_moved) rfl (fun H locs hw => ?_)
                        refine lv_aload_n hx hb dX6_readPeople_212 rfl (lv_at hl 2 rfl) ?_
                        refine g_get F inG6 hw 0 rfl rfl 7 (by decide) t_737 (fun _ h9 => h9) rfl dX6_readPeople_213 ?_
                        refine lv_iconst (v := 5) hx hb dX6_readPeople_216 (by decide) ?_
                        refine lv_iload_n hx hb dX6_readPeople_217 rfl (lv_at hl 3 rfl) ?_
                        refine lv_imul hx hb dX6_readPeople_218 ?_
                        refine lv_iconst (v := 1) hx hb dX6_readPeople_219 (by decide) ?_
                        refine lv_iadd hx hb dX6_readPeople_220 ?_
                        refine lv_iload hx hb dX6_readPeople_221 (lv_at hl 6 rfl) ?_
                        obtain ⟨j716, k717, h775⟩ := ob1 h774
                        clear h774
                        refine g_iast F hw 3 rfl k717 dX6_readPeople_223 (w' := wM cy m0 m1 m2 m3 m4 m5 m6 m7 m8 m9 m10 m_now m_tape m_typed x697 x698 m_readWet m_readHarvest (upd (upd g480 j714 x644) j716 x677) m_undone m_undos m_bestGain m_aside m_kept m_keptUndos m_isKept m_lanes m_sizes m_items m_moved) rfl (fun H locs hw => ?_)
                        refine lv_aload_n hx hb dX6_readPeople_224 rfl (lv_at hl 2 rfl) ?_
                        refine g_get F inG6 hw 0 rfl rfl 7 (by decide) t_737 (fun _ h9 => h9) rfl dX6_readPeople_225 ?_
                        refine lv_iconst (v := 5) hx hb dX6_readPeople_228 (by decide) ?_
                        refine lv_iload_n hx hb dX6_readPeople_229 rfl (lv_at hl 3 rfl) ?_
                        refine lv_imul hx hb dX6_readPeople_230 ?_
                        refine lv_iconst (v := 2) hx hb dX6_readPeople_231 (by decide) ?_
                        refine lv_iadd hx hb dX6_readPeople_232 ?_
                        refine lv_iload hx hb dX6_readPeople_233 (lv_at hl 5 rfl) ?_
                        obtain ⟨j718, k719, h776⟩ := ob1 h775
                        clear h775
                        refine g_iast F hw 3 rfl k719 dX6_readPeople_235 (w' := wM cy m0 m1 m2 m3 m4 m5 m6 m7 m8 m9 m10 m_now m_tape m_typed x697 x698 m_readWet m_readHarvest (upd (upd (upd g480 j714 x644) j716 x677) j718 r658) m_undone m_undos m_bestGain m_aside m_kept m_keptUndos m_isKept m_lanes m_sizes m_items m_moved) rfl (fun H locs hw => ?_)
                        refine lv_aload_n hx hb dX6_readPeople_236 rfl (lv_at hl 2 rfl) ?_
                        refine g_get F inG6 hw 0 rfl rfl 7 (by decide) t_737 (fun _ h9 => h9) rfl dX6_readPeople_237 ?_
                        refine lv_iconst (v := 5) hx hb dX6_readPeople_240 (by decide) ?_
                        refine lv_iload_n hx hb dX6_readPeople_241 rfl (lv_at hl 3 rfl) ?_
                        refine lv_imul hx hb dX6_readPeople_242 ?_
                        refine lv_iconst (v := 3) hx hb dX6_readPeople_243 (by decide) ?_
                        refine lv_iadd hx hb dX6_readPeople_244 ?_
                        refine lv_iload hx hb dX6_readPeople_245 (lv_at hl 1 rfl) ?_
                        obtain ⟨j720, k721, h777⟩ := ob1 h776
                        clear h776
                        refine g_iast F hw 3 rfl k721 dX6_readPeople_247 (w' := wM cy m0 m1 m2 m3 m4 m5 m6 m7 m8 m9 m10 m_now m_tape m_typed x697 x698 m_readWet m_readHarvest (upd (upd (upd (upd g480 j714 x644) j716 x677) j718 r658) j720 r692) m_undone m_undos m_bestGain m_aside m_kept m_keptUndos m_isKept m_lanes m_sizes m_items m_moved) rfl (fun H locs hw => ?_)
                        refine lv_aload_n hx hb dX6_readPeople_248 rfl (lv_at hl 2 rfl) ?_
                        refine g_get F inG6 hw 0 rfl rfl 7 (by decide) t_737 (fun _ h9 => h9) rfl dX6_readPeople_249 ?_
                        refine lv_iconst (v := 5) hx hb dX6_readPeople_252 (by decide) ?_
                        refine lv_iload_n hx hb dX6_readPeople_253 rfl (lv_at hl 3 rfl) ?_
                        refine lv_imul hx hb dX6_readPeople_254 ?_
                        refine lv_iconst (v := 4) hx hb dX6_readPeople_255 (by decide) ?_
                        refine lv_iadd hx hb dX6_readPeople_256 ?_
                        refine lv_iload hx hb dX6_readPeople_257 (lv_at hl 0 rfl) ?_
                        obtain ⟨j722, k723, h778⟩ := ob1 h777
                        clear h777
                        refine g_iast F hw 3 rfl k723 dX6_readPeople_259 (w' := wM cy m0 m1 m2 m3 m4 m5 m6 m7 m8 m9 m10 m_now m_tape m_typed x697 x698 m_readWet m_readHarvest (upd (upd (upd (upd (upd g480 j714 x644) j716 x677) j718 r658) j720 r692) j722 r696) m_undone m_undos m_bestGain m_aside m_kept m_keptUndos m_isKept m_lanes m_sizes m_items m_moved) rfl (fun H locs hw => ?_)
                        obtain rfl := inj1 h778
                        exact kont712 _ _ _ hw (lv_sub hl [2, 3] rfl)
                    clear h769
                    refine lv_if_ne (tgt := 180) hx hb dX6_readPeople_135 (by decide) (fun c679 => ?_) (fun c679 => ?_)
                    · rw [if_neg c679] at h768
                      obtain ⟨rfl, rfl, rfl⟩ := inj3 h768
                      exact kont678 _ _ _ hw (lv_sub hl [2, 3, 4, 1, 0] rfl)
                    · rw [if_pos c679] at h768
                      refine lv_aload_n hx hb dX6_readPeople_138 rfl (lv_at hl 2 rfl) ?_
                      obtain ⟨r680, x681, k682, h779⟩ := ob2 h768
                      clear h768
                      refine g_vi F (cX6_here_ok l d cy m0 m1 m2 m3 m4 m5 m6 m7 m8 m9 m10 m_now m_tape m_typed x659 x660 m_readWet m_readHarvest g480 m_undone m_undos m_bestGain m_aside m_kept m_keptUndos m_isKept m_lanes m_sizes m_items m_moved r680 x681 k682) cal_X6_here t_888 rfl ⟨by decide, by decide⟩ hw (w' := wM cy m0 m1 m2 m3 m4 m5 m6 m7 m8 m9 m10 m_now m_tape m_typed x681 x660 m_readWet m_readHarvest g480 m_undone m_undos m_bestGain m_aside m_kept m_keptUndos m_isKept m_lanes m_sizes m_items m_moved) Cut.all 0 6 rfl rfl hl.1 (Nat.le_of_ble_eq_true rfl) rfl dX6_readPeople_139 (fun H locs hw => ?_)
                      refine lv_bipush (v := 62) hx hb dX6_readPeople_142 (by decide) ?_
                      refine lv_icmp_ne (tgt := 180) hx hb dX6_readPeople_144 (by decide) (fun c683 => ?_) (fun c683 => ?_)
                      · rw [if_neg c683] at h779
                        obtain ⟨rfl, rfl, rfl⟩ := inj3 h779
                        exact kont678 _ _ _ hw (lv_sub hl [2, 3, 4, 1, 0] rfl)
                      · rw [if_pos c683] at h779
                        refine lv_aload_n hx hb dX6_readPeople_147 rfl (lv_at hl 2 rfl) ?_
                        refine lv_dup hx hb dX6_readPeople_148 rfl ?_
                        refine g_get F inG6 hw 0 rfl rfl 3 (by decide) t_733 (fun _ h9 => h9) rfl dX6_readPeople_149 ?_
                        refine lv_iconst (v := 1) hx hb dX6_readPeople_152 (by decide) ?_
                        refine lv_iadd hx hb dX6_readPeople_153 ?_
                        refine g_put F inG6 tyX6 tyX6_ok nmX6 hw 0 rfl rfl 3 (by decide) t_733 (fun _ h9 => h9) rfl (ty := .int) (by decide +kernel) rfl rfl (Nat.le_of_ble_eq_true rfl) dX6_readPeople_154 (w' := wM cy m0 m1 m2 m3 m4 m5 m6 m7 m8 m9 m10 m_now m_tape m_typed (x681 + 1) x660 m_readWet m_readHarvest g480 m_undone m_undos m_bestGain m_aside m_kept m_keptUndos m_isKept m_lanes m_sizes m_items m_moved) rfl (fun H locs hw => ?_)
                        refine lv_aload_n hx hb dX6_readPeople_157 rfl (lv_at hl 2 rfl) ?_
                        obtain ⟨r684, x685, k686, h780⟩ := ob2 h779
                        clear h779
                        refine g_vi F (cX6_here_ok l d cy m0 m1 m2 m3 m4 m5 m6 m7 m8 m9 m10 m_now m_tape m_typed (x681 + 1) x660 m_readWet m_readHarvest g480 m_undone m_undos m_bestGain m_aside m_kept m_keptUndos m_isKept m_lanes m_sizes m_items m_moved r684 x685 k686) cal_X6_here t_888 rfl ⟨by decide, by decide⟩ hw (w' := wM cy m0 m1 m2 m3 m4 m5 m6 m7 m8 m9 m10 m_now m_tape m_typed x685 x660 m_readWet m_readHarvest g480 m_undone m_undos m_bestGain m_aside m_kept m_keptUndos m_isKept m_lanes m_sizes m_items m_moved) Cut.all 0 6 rfl rfl hl.1 (Nat.le_of_ble_eq_true rfl) rfl dX6_readPeople_158 (fun H locs hw => ?_)
                        refine lv_bipush (v := 48) hx hb dX6_readPeople_161 (by decide) ?_
                        refine lv_isub hx hb dX6_readPeople_163 ?_
                        refine lv_istore (lv' := [(5, .int (r684 - 48)), (4, .int r658), (0, .ref m0), (1, .int v477), (3, .int x644)]) hx hb dX6_readPeople_164 hl (by decide) rfl (fun ls hl => ?_)
                        refine lv_aload_n hx hb dX6_readPeople_166 rfl (lv_at hl 2 rfl) ?_
                        refine lv_iload hx hb dX6_readPeople_167 (lv_at hl 0 rfl) ?_
                        refine lv_i2l hx hb dX6_readPeople_169 rfl ?_
                        refine lv_lconst (v := 0) hx hb dX6_readPeople_170 (by decide) ?_
                        refine lv_ldc2 (v := 5) hx hb F.2.2.2.2.2.1 (F.2.2.2.2.2.2.1 _ t_821) dX6_readPeople_171 ?_
                        obtain ⟨r687, k688, h781⟩ := ob1 h780
                        clear h780
                        refine g_si F (cX6_in_ok l d cy (Int32.toInt64 (r684 - 48)) 0 5 r687 k688) cal_X6_in t_793 rfl ⟨by decide, by decide⟩ hw (w' := wM cy m0 m1 m2 m3 m4 m5 m6 m7 m8 m9 m10 m_now m_tape m_typed x685 x660 m_readWet m_readHarvest g480 m_undone m_undos m_bestGain m_aside m_kept m_keptUndos m_isKept m_lanes m_sizes m_items m_moved) Cut.nil hl.1 (Nat.le_of_ble_eq_true rfl) rfl dX6_readPeople_174 (fun H locs hw => ?_)
                        obtain ⟨x689, x690, k691, h782⟩ := ob2 h781
                        clear h781
                        refine g_vv F (cX6_must_ok l d cy m0 m1 m2 m3 m4 m5 m6 m7 m8 m9 m10 m_now m_tape m_typed x685 x660 m_readWet m_readHarvest g480 m_undone m_undos m_bestGain m_aside m_kept m_keptUndos m_isKept m_lanes m_sizes m_items m_moved r687 x689 x690 k691) cal_X6_must t_892 rfl ⟨by decide, by decide⟩ hw (w' := wM cy m0 m1 m2 m3 m4 m5 m6 m7 m8 m9 m10 m_now m_tape m_typed x689 x690 m_readWet m_readHarvest g480 m_undone m_undos m_bestGain m_aside m_kept m_keptUndos m_isKept m_lanes m_sizes m_items m_moved) Cut.all 0 6 rfl rfl hl.1 (Nat.le_of_ble_eq_true rfl) rfl dX6_readPeople_177 (fun H locs hw => ?_)
                        obtain ⟨rfl, rfl, rfl⟩ := inj3 h782
                        exact kont678 _ _ _ hw (lv_sub hl [2, 3, 4, 1, 0] rfl)
                  clear h765
                  refine lv_if_lt (tgt := 118) hx hb dX6_readPeople_111 (by decide) (fun c654 => ?_) (fun c654 => ?_)
                  · rw [if_pos c654] at h764
                    refine lv_iconst (v := 0) hx hb dX6_readPeople_118 (by decide) ?_
                    obtain rfl := inj1 h764
                    exact kont653 _ _ _ hw (lv_sub hl [1, 2, 0] rfl)
                  · rw [if_neg c654] at h764
                    refine lv_iconst (v := 1) hx hb dX6_readPeople_114 (by decide) ?_
                    refine lv_goto (tgt := 119) hx hb dX6_readPeople_115 (by decide) ?_
                    obtain rfl := inj1 h764
                    exact kont653 _ _ _ hw (lv_sub hl [1, 2, 0] rfl)
                clear h763
                refine lv_icmp_ne (tgt := 67) hx hb dX6_readPeople_60 (by decide) (fun c646 => ?_) (fun c646 => ?_)
                · rw [if_neg c646] at h762
                  refine lv_iload_n hx hb dX6_readPeople_67 rfl (lv_at hl 0 rfl) ?_
                  refine lv_bipush (v := 102) hx hb dX6_readPeople_68 (by decide) ?_
                  refine lv_icmp_ne (tgt := 77) hx hb dX6_readPeople_70 (by decide) (fun c647 => ?_) (fun c647 => ?_)
                  · rw [if_neg c647] at h762
                    refine lv_iload_n hx hb dX6_readPeople_77 rfl (lv_at hl 0 rfl) ?_
                    refine lv_bipush (v := 111) hx hb dX6_readPeople_78 (by decide) ?_
                    refine lv_icmp_ne (tgt := 87) hx hb dX6_readPeople_80 (by decide) (fun c648 => ?_) (fun c648 => ?_)
                    · rw [if_neg c648] at h762
                      refine lv_iload_n hx hb dX6_readPeople_87 rfl (lv_at hl 0 rfl) ?_
                      refine lv_bipush (v := 108) hx hb dX6_readPeople_88 (by decide) ?_
                      refine lv_icmp_ne (tgt := 97) hx hb dX6_readPeople_90 (by decide) (fun c649 => ?_) (fun c649 => ?_)
                      · rw [if_neg c649] at h762
                        refine lv_iload_n hx hb dX6_readPeople_97 rfl (lv_at hl 0 rfl) ?_
                        refine lv_bipush (v := 114) hx hb dX6_readPeople_98 (by decide) ?_
                        refine lv_icmp_ne (tgt := 107) hx hb dX6_readPeople_100 (by decide) (fun c650 => ?_) (fun c650 => ?_)
                        · rw [if_neg c650] at h762
                          refine lv_iconst (v := (-1)) hx hb dX6_readPeople_107 (by decide) ?_
                          obtain rfl := inj1 h762
                          exact kont645 _ _ _ hw (lv_sub hl [1, 2] rfl)
                        · rw [if_pos c650] at h762
                          refine lv_iconst (v := 4) hx hb dX6_readPeople_103 (by decide) ?_
                          refine lv_goto (tgt := 108) hx hb dX6_readPeople_104 (by decide) ?_
                          obtain rfl := inj1 h762
                          exact kont645 _ _ _ hw (lv_sub hl [1, 2] rfl)
                      · rw [if_pos c649] at h762
                        refine lv_iconst (v := 3) hx hb dX6_readPeople_93 (by decide) ?_
                        refine lv_goto (tgt := 108) hx hb dX6_readPeople_94 (by decide) ?_
                        obtain rfl := inj1 h762
                        exact kont645 _ _ _ hw (lv_sub hl [1, 2] rfl)
                    · rw [if_pos c648] at h762
                      refine lv_iconst (v := 2) hx hb dX6_readPeople_83 (by decide) ?_
                      refine lv_goto (tgt := 108) hx hb dX6_readPeople_84 (by decide) ?_
                      obtain rfl := inj1 h762
                      exact kont645 _ _ _ hw (lv_sub hl [1, 2] rfl)
                  · rw [if_pos c647] at h762
                    refine lv_iconst (v := 1) hx hb dX6_readPeople_73 (by decide) ?_
                    refine lv_goto (tgt := 108) hx hb dX6_readPeople_74 (by decide) ?_
                    obtain rfl := inj1 h762
                    exact kont645 _ _ _ hw (lv_sub hl [1, 2] rfl)
                · rw [if_pos c646] at h762
                  refine lv_iconst (v := 0) hx hb dX6_readPeople_63 (by decide) ?_
                  refine lv_goto (tgt := 108) hx hb dX6_readPeople_64 (by decide) ?_
                  obtain rfl := inj1 h762
                  exact kont645 _ _ _ hw (lv_sub hl [1, 2] rfl)
              clear h761
              refine lv_if_eq (tgt := 52) hx hb dX6_readPeople_45 (by decide) (fun c635 => ?_) (fun c635 => ?_)
              · rw [if_pos c635] at h760
                refine lv_aload_n hx hb dX6_readPeople_52 rfl (lv_at hl 0 rfl) ?_
                obtain ⟨r636, x637, k638, h783⟩ := ob2 h760
                clear h760
                refine g_vi F (cX6_here_ok l d cy m0 m1 m2 m3 m4 m5 m6 m7 m8 m9 m10 m_now m_tape m_typed x617 x618 m_readWet m_readHarvest g480 m_undone m_undos m_bestGain m_aside m_kept m_keptUndos m_isKept m_lanes m_sizes m_items m_moved r636 x637 k638) cal_X6_here t_888 rfl ⟨by decide, by decide⟩ hw (w' := wM cy m0 m1 m2 m3 m4 m5 m6 m7 m8 m9 m10 m_now m_tape m_typed x637 x618 m_readWet m_readHarvest g480 m_undone m_undos m_bestGain m_aside m_kept m_keptUndos m_isKept m_lanes m_sizes m_items m_moved) Cut.all 0 6 rfl rfl hl.1 (Nat.le_of_ble_eq_true rfl) rfl dX6_readPeople_53 (fun H locs hw => ?_)
                obtain ⟨rfl, rfl⟩ := inj2 h783
                exact kont634 _ _ _ hw (lv_sub hl [0, 1] rfl)
              · rw [if_neg c635] at h760
                refine lv_iconst (v := 0) hx hb dX6_readPeople_48 (by decide) ?_
                refine lv_goto (tgt := 56) hx hb dX6_readPeople_49 (by decide) ?_
                obtain ⟨rfl, rfl⟩ := inj2 h760
                exact kont634 _ _ _ hw (lv_sub hl [0, 1] rfl)
            clear h759
            refine lv_if_le (tgt := 41) hx hb dX6_readPeople_23 (by decide) (fun c620 => ?_) (fun c620 => ?_)
            · rw [if_pos c620] at h758
              obtain ⟨rfl, rfl⟩ := inj2 h758
              exact kont619 _ _ _ hw (lv_sub hl [0, 1] rfl)
            · rw [if_neg c620] at h758
              refine lv_aload_n hx hb dX6_readPeople_26 rfl (lv_at hl 0 rfl) ?_
              refine lv_iload_n hx hb dX6_readPeople_27 rfl (lv_at hl 1 rfl) ?_
              refine lv_bipush (v := 6) hx hb dX6_readPeople_28 (by decide) ?_
              obtain ⟨x622, h784, h785⟩ := ob1 h758
              clear h758
              have kont623 : ∀ (H : Heap) (locs : List Loc) (ls : Array Slot), Wd d A s.heap (wM cy m0 m1 m2 m3 m4 m5 m6 m7 m8 m9 m10 m_now m_tape m_typed x606 v478 m_readWet m_readHarvest g480 m_undone m_undos m_bestGain m_aside m_kept m_keptUndos m_isKept m_lanes m_sizes m_items m_moved) H locs → lv_has ls 8 [(0, .ref m0), (1, .int v477)] → W p l e (rmo 3 68) s m args below meth c H locs 0 0 Q (F0 m 38 ls [.int x622, .ref m0]) := by
                intro H locs ls hw hl
                clear h784
                obtain ⟨x625, x626, k627, h786⟩ := ob2 h785
                clear h785
                refine g_vv F (cX6_must_ok l d cy m0 m1 m2 m3 m4 m5 m6 m7 m8 m9 m10 m_now m_tape m_typed x606 v478 m_readWet m_readHarvest g480 m_undone m_undos m_bestGain m_aside m_kept m_keptUndos m_isKept m_lanes m_sizes m_items m_moved x622 x625 x626 k627) cal_X6_must t_892 rfl ⟨by decide, by decide⟩ hw (w' := wM cy m0 m1 m2 m3 m4 m5 m6 m7 m8 m9 m10 m_now m_tape m_typed x625 x626 m_readWet m_readHarvest g480 m_undone m_undos m_bestGain m_aside m_kept m_keptUndos m_isKept m_lanes m_sizes m_items m_moved) Cut.all 0 6 rfl rfl hl.1 (Nat.le_of_ble_eq_true rfl) rfl dX6_readPeople_38 (fun H locs hw => ?_)
                obtain ⟨rfl, rfl⟩ := inj2 h786
                exact kont619 _ _ _ hw (lv_sub hl [0, 1] rfl)
              clear h785
              refine lv_icmp_ge (tgt := 37) hx hb dX6_readPeople_30 (by decide) (fun c624 => ?_) (fun c624 => ?_)
              · rw [if_pos c624] at h784
                refine lv_iconst (v := 0) hx hb dX6_readPeople_37 (by decide) ?_
                obtain rfl := inj1 h784
                exact kont623 _ _ _ hw (lv_sub hl [0, 1] rfl)
              · rw [if_neg c624] at h784
                refine lv_iconst (v := 1) hx hb dX6_readPeople_33 (by decide) ?_
                refine lv_goto (tgt := 38) hx hb dX6_readPeople_34 (by decide) ?_
                obtain rfl := inj1 h784
                exact kont623 _ _ _ hw (lv_sub hl [0, 1] rfl)
  exact loop483 fl 0 m_isFault m_place m_read _ _ _ hw (lv_sub hl [1, 0] rfl) h724
